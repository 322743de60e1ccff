section
-- ===== PART A: goes FIRST, ahead of the names: the tables' words, and 'selects' of the private methods out of them =====
/-- a private method of a class that the tables say can be made, by its rows of tables_1 -/
def lw_okq (q : MethodName × Nat) : Prop := (q.1.cls ≠ "java/lang/invoke/MethodHandle" ∧ q.1.cls ≠ "java/lang/invoke/VarHandle") ∧ Cond.instantiable q.1.cls q.2 ∈ tables_1 ∧ Cond.privateMethod q.1 ∈ tables_1 ∧ Cond.instanceMethod q.1 ∈ tables_1
theorem lw_p0 : lw_okq (⟨"ReplicaStore", "operate", "(ILReplicaStore$Change;)I"⟩, 2) := ⟨⟨by decide +kernel, by decide +kernel⟩, List.mem_of_getElem? (i := 22) (by decide +kernel), List.mem_of_getElem? (i := 205) (by decide +kernel), List.mem_of_getElem? (i := 206) (by decide +kernel)⟩
theorem lw_p1 : lw_okq (⟨"ReplicaStore$Replica", "finish", "(LReplicaStore$Operation;)V"⟩, 10) := ⟨⟨by decide +kernel, by decide +kernel⟩, List.mem_of_getElem? (i := 33) (by decide +kernel), List.mem_of_getElem? (i := 263) (by decide +kernel), List.mem_of_getElem? (i := 264) (by decide +kernel)⟩
theorem lw_p2 : lw_okq (⟨"ReplicaStore$Replica", "apply", "(LReplicaStore$Operation;)V"⟩, 10) := ⟨⟨by decide +kernel, by decide +kernel⟩, List.mem_of_getElem? (i := 33) (by decide +kernel), List.mem_of_getElem? (i := 270) (by decide +kernel), List.mem_of_getElem? (i := 271) (by decide +kernel)⟩
theorem lw_p3 : lw_okq (⟨"java/util/ArrayList", "add", "(Ljava/lang/Object;[Ljava/lang/Object;I)V"⟩, 3) := ⟨⟨by decide +kernel, by decide +kernel⟩, List.mem_of_getElem? (i := 41) (by decide +kernel), List.mem_of_getElem? (i := 278) (by decide +kernel), List.mem_of_getElem? (i := 279) (by decide +kernel)⟩
theorem lw_p4 : lw_okq (⟨"java/util/ArrayList", "grow", "()[Ljava/lang/Object;"⟩, 3) := ⟨⟨by decide +kernel, by decide +kernel⟩, List.mem_of_getElem? (i := 41) (by decide +kernel), List.mem_of_getElem? (i := 282) (by decide +kernel), List.mem_of_getElem? (i := 283) (by decide +kernel)⟩
theorem lw_p5 : lw_okq (⟨"java/util/ArrayList", "grow", "(I)[Ljava/lang/Object;"⟩, 3) := ⟨⟨by decide +kernel, by decide +kernel⟩, List.mem_of_getElem? (i := 41) (by decide +kernel), List.mem_of_getElem? (i := 286) (by decide +kernel), List.mem_of_getElem? (i := 287) (by decide +kernel)⟩
theorem lw_p6 : lw_okq (⟨"ReplicaStore$Replica", "dropPutsBefore", "(LReplicaStore$Operation;)V"⟩, 10) := ⟨⟨by decide +kernel, by decide +kernel⟩, List.mem_of_getElem? (i := 33) (by decide +kernel), List.mem_of_getElem? (i := 330) (by decide +kernel), List.mem_of_getElem? (i := 331) (by decide +kernel)⟩
theorem lw_p7 : lw_okq (⟨"java/util/ArrayList", "fastRemove", "([Ljava/lang/Object;I)V"⟩, 3) := ⟨⟨by decide +kernel, by decide +kernel⟩, List.mem_of_getElem? (i := 41) (by decide +kernel), List.mem_of_getElem? (i := 364) (by decide +kernel), List.mem_of_getElem? (i := 365) (by decide +kernel)⟩
theorem lw_p8 : lw_okq (⟨"ReplicaStore$Replica", "keepGreaterMark", "(LReplicaStore$Operation;)V"⟩, 10) := ⟨⟨by decide +kernel, by decide +kernel⟩, List.mem_of_getElem? (i := 33) (by decide +kernel), List.mem_of_getElem? (i := 369) (by decide +kernel), List.mem_of_getElem? (i := 370) (by decide +kernel)⟩
theorem lw_p9 : lw_okq (⟨"ReplicaStore$Text", "letterOf", "(LReplicaStore$Operation;)LReplicaStore$Letter;"⟩, 1) := ⟨⟨by decide +kernel, by decide +kernel⟩, List.mem_of_getElem? (i := 83) (by decide +kernel), List.mem_of_getElem? (i := 381) (by decide +kernel), List.mem_of_getElem? (i := 382) (by decide +kernel)⟩
theorem lw_p10 : lw_okq (⟨"ReplicaStore$Replica", "isDoneEverywhere", "(LReplicaStore$Operation;)Z"⟩, 10) := ⟨⟨by decide +kernel, by decide +kernel⟩, List.mem_of_getElem? (i := 33) (by decide +kernel), List.mem_of_getElem? (i := 390) (by decide +kernel), List.mem_of_getElem? (i := 391) (by decide +kernel)⟩
theorem lw_p11 : lw_okq (⟨"ReplicaStore", "wayBetween", "(II)LReplicaStore$Way;"⟩, 2) := ⟨⟨by decide +kernel, by decide +kernel⟩, List.mem_of_getElem? (i := 22) (by decide +kernel), List.mem_of_getElem? (i := 420) (by decide +kernel), List.mem_of_getElem? (i := 421) (by decide +kernel)⟩
theorem lw_p12 : lw_okq (⟨"ReplicaStore", "isOnWay", "(III)Z"⟩, 2) := ⟨⟨by decide +kernel, by decide +kernel⟩, List.mem_of_getElem? (i := 22) (by decide +kernel), List.mem_of_getElem? (i := 468) (by decide +kernel), List.mem_of_getElem? (i := 469) (by decide +kernel)⟩
theorem lw_p13 : lw_okq (⟨"ReplicaStore$Replica", "shortenLog", "()V"⟩, 10) := ⟨⟨by decide +kernel, by decide +kernel⟩, List.mem_of_getElem? (i := 33) (by decide +kernel), List.mem_of_getElem? (i := 486) (by decide +kernel), List.mem_of_getElem? (i := 487) (by decide +kernel)⟩
theorem lw_p14 : lw_okq (⟨"ReplicaStore$Replica", "isWaiting", "(LReplicaStore$Operation;)Z"⟩, 10) := ⟨⟨by decide +kernel, by decide +kernel⟩, List.mem_of_getElem? (i := 33) (by decide +kernel), List.mem_of_getElem? (i := 490) (by decide +kernel), List.mem_of_getElem? (i := 491) (by decide +kernel)⟩
theorem lw_p15 : lw_okq (⟨"ReplicaStore$Replica", "finishWaiting", "()I"⟩, 10) := ⟨⟨by decide +kernel, by decide +kernel⟩, List.mem_of_getElem? (i := 33) (by decide +kernel), List.mem_of_getElem? (i := 494) (by decide +kernel), List.mem_of_getElem? (i := 495) (by decide +kernel)⟩
def lw_privs_1 : List (MethodName × Nat) := [(⟨"ReplicaStore", "operate", "(ILReplicaStore$Change;)I"⟩, 2), (⟨"ReplicaStore$Replica", "finish", "(LReplicaStore$Operation;)V"⟩, 10), (⟨"ReplicaStore$Replica", "apply", "(LReplicaStore$Operation;)V"⟩, 10), (⟨"java/util/ArrayList", "add", "(Ljava/lang/Object;[Ljava/lang/Object;I)V"⟩, 3), (⟨"java/util/ArrayList", "grow", "()[Ljava/lang/Object;"⟩, 3), (⟨"java/util/ArrayList", "grow", "(I)[Ljava/lang/Object;"⟩, 3), (⟨"ReplicaStore$Replica", "dropPutsBefore", "(LReplicaStore$Operation;)V"⟩, 10), (⟨"java/util/ArrayList", "fastRemove", "([Ljava/lang/Object;I)V"⟩, 3), (⟨"ReplicaStore$Replica", "keepGreaterMark", "(LReplicaStore$Operation;)V"⟩, 10), (⟨"ReplicaStore$Text", "letterOf", "(LReplicaStore$Operation;)LReplicaStore$Letter;"⟩, 1), (⟨"ReplicaStore$Replica", "isDoneEverywhere", "(LReplicaStore$Operation;)Z"⟩, 10), (⟨"ReplicaStore", "wayBetween", "(II)LReplicaStore$Way;"⟩, 2), (⟨"ReplicaStore", "isOnWay", "(III)Z"⟩, 2), (⟨"ReplicaStore$Replica", "shortenLog", "()V"⟩, 10), (⟨"ReplicaStore$Replica", "isWaiting", "(LReplicaStore$Operation;)Z"⟩, 10), (⟨"ReplicaStore$Replica", "finishWaiting", "()I"⟩, 10)]
theorem lw_r1 : ∀ q ∈ lw_privs_1, lw_okq q := List.forall_mem_cons.mpr ⟨lw_p0, List.forall_mem_cons.mpr ⟨lw_p1, List.forall_mem_cons.mpr ⟨lw_p2, List.forall_mem_cons.mpr ⟨lw_p3, List.forall_mem_cons.mpr ⟨lw_p4, List.forall_mem_cons.mpr ⟨lw_p5, List.forall_mem_cons.mpr ⟨lw_p6, List.forall_mem_cons.mpr ⟨lw_p7, List.forall_mem_cons.mpr ⟨lw_p8, List.forall_mem_cons.mpr ⟨lw_p9, List.forall_mem_cons.mpr ⟨lw_p10, List.forall_mem_cons.mpr ⟨lw_p11, List.forall_mem_cons.mpr ⟨lw_p12, List.forall_mem_cons.mpr ⟨lw_p13, List.forall_mem_cons.mpr ⟨lw_p14, List.forall_mem_cons.mpr ⟨lw_p15, fun _ h => absurd h List.not_mem_nil⟩⟩⟩⟩⟩⟩⟩⟩⟩⟩⟩⟩⟩⟩⟩⟩
theorem lw_p16 : lw_okq (⟨"ReplicaStore$Replica", "firstReady", "()I"⟩, 10) := ⟨⟨by decide +kernel, by decide +kernel⟩, List.mem_of_getElem? (i := 33) (by decide +kernel), List.mem_of_getElem? (i := 498) (by decide +kernel), List.mem_of_getElem? (i := 499) (by decide +kernel)⟩
theorem lw_p17 : lw_okq (⟨"ReplicaStore$Replica", "isReady", "(LReplicaStore$Operation;)Z"⟩, 10) := ⟨⟨by decide +kernel, by decide +kernel⟩, List.mem_of_getElem? (i := 33) (by decide +kernel), List.mem_of_getElem? (i := 502) (by decide +kernel), List.mem_of_getElem? (i := 503) (by decide +kernel)⟩
theorem lw_p18 : lw_okq (⟨"ReplicaStore", "answer", "(IILReplicaStore$Clock;)V"⟩, 2) := ⟨⟨by decide +kernel, by decide +kernel⟩, List.mem_of_getElem? (i := 22) (by decide +kernel), List.mem_of_getElem? (i := 506) (by decide +kernel), List.mem_of_getElem? (i := 507) (by decide +kernel)⟩
theorem lw_p19 : lw_okq (⟨"ReplicaStore", "sendClock", "(III)I"⟩, 2) := ⟨⟨by decide +kernel, by decide +kernel⟩, List.mem_of_getElem? (i := 22) (by decide +kernel), List.mem_of_getElem? (i := 530) (by decide +kernel), List.mem_of_getElem? (i := 531) (by decide +kernel)⟩
theorem lw_p20 : lw_okq (⟨"ReplicaStoreModel", "newOperation", "(IIIII)I"⟩, 24) := ⟨⟨by decide +kernel, by decide +kernel⟩, List.mem_of_getElem? (i := 612) (by decide +kernel), List.mem_of_getElem? (i := 705) (by decide +kernel), List.mem_of_getElem? (i := 706) (by decide +kernel)⟩
theorem lw_p21 : lw_okq (⟨"ReplicaStoreModel", "doOperation", "(II)V"⟩, 24) := ⟨⟨by decide +kernel, by decide +kernel⟩, List.mem_of_getElem? (i := 612) (by decide +kernel), List.mem_of_getElem? (i := 709) (by decide +kernel), List.mem_of_getElem? (i := 710) (by decide +kernel)⟩
theorem lw_p22 : lw_okq (⟨"ReplicaStoreModel", "sendOperation", "(III)V"⟩, 24) := ⟨⟨by decide +kernel, by decide +kernel⟩, List.mem_of_getElem? (i := 612) (by decide +kernel), List.mem_of_getElem? (i := 716) (by decide +kernel), List.mem_of_getElem? (i := 717) (by decide +kernel)⟩
theorem lw_p23 : lw_okq (⟨"ReplicaStoreModel", "send", "(IIII[II)V"⟩, 24) := ⟨⟨by decide +kernel, by decide +kernel⟩, List.mem_of_getElem? (i := 612) (by decide +kernel), List.mem_of_getElem? (i := 720) (by decide +kernel), List.mem_of_getElem? (i := 721) (by decide +kernel)⟩
theorem lw_p24 : lw_okq (⟨"ReplicaStoreModel", "lay", "(IIZ)V"⟩, 24) := ⟨⟨by decide +kernel, by decide +kernel⟩, List.mem_of_getElem? (i := 612) (by decide +kernel), List.mem_of_getElem? (i := 743) (by decide +kernel), List.mem_of_getElem? (i := 744) (by decide +kernel)⟩
theorem lw_p25 : lw_okq (⟨"ReplicaStoreModel", "pileUp", "(IIII)I"⟩, 24) := ⟨⟨by decide +kernel, by decide +kernel⟩, List.mem_of_getElem? (i := 612) (by decide +kernel), List.mem_of_getElem? (i := 747) (by decide +kernel), List.mem_of_getElem? (i := 748) (by decide +kernel)⟩
theorem lw_p26 : lw_okq (⟨"ReplicaStoreModel", "was", "(II)Z"⟩, 24) := ⟨⟨by decide +kernel, by decide +kernel⟩, List.mem_of_getElem? (i := 612) (by decide +kernel), List.mem_of_getElem? (i := 751) (by decide +kernel), List.mem_of_getElem? (i := 752) (by decide +kernel)⟩
theorem lw_p27 : lw_okq (⟨"ReplicaStoreModel", "hasGreaterMark", "(II)Z"⟩, 24) := ⟨⟨by decide +kernel, by decide +kernel⟩, List.mem_of_getElem? (i := 612) (by decide +kernel), List.mem_of_getElem? (i := 755) (by decide +kernel), List.mem_of_getElem? (i := 756) (by decide +kernel)⟩
theorem lw_p28 : lw_okq (⟨"ReplicaStoreModel", "isRemoved", "(II)Z"⟩, 24) := ⟨⟨by decide +kernel, by decide +kernel⟩, List.mem_of_getElem? (i := 612) (by decide +kernel), List.mem_of_getElem? (i := 759) (by decide +kernel), List.mem_of_getElem? (i := 760) (by decide +kernel)⟩
theorem lw_p29 : lw_okq (⟨"ReplicaStoreModel", "isTaken", "(II)Z"⟩, 24) := ⟨⟨by decide +kernel, by decide +kernel⟩, List.mem_of_getElem? (i := 612) (by decide +kernel), List.mem_of_getElem? (i := 775) (by decide +kernel), List.mem_of_getElem? (i := 776) (by decide +kernel)⟩
theorem lw_p30 : lw_okq (⟨"ReplicaStoreModel", "isBefore", "(II)Z"⟩, 24) := ⟨⟨by decide +kernel, by decide +kernel⟩, List.mem_of_getElem? (i := 612) (by decide +kernel), List.mem_of_getElem? (i := 779) (by decide +kernel), List.mem_of_getElem? (i := 780) (by decide +kernel)⟩
theorem lw_p31 : lw_okq (⟨"ReplicaStoreModel", "isMessage", "(III)Z"⟩, 24) := ⟨⟨by decide +kernel, by decide +kernel⟩, List.mem_of_getElem? (i := 612) (by decide +kernel), List.mem_of_getElem? (i := 807) (by decide +kernel), List.mem_of_getElem? (i := 808) (by decide +kernel)⟩
def lw_privs_2 : List (MethodName × Nat) := [(⟨"ReplicaStore$Replica", "firstReady", "()I"⟩, 10), (⟨"ReplicaStore$Replica", "isReady", "(LReplicaStore$Operation;)Z"⟩, 10), (⟨"ReplicaStore", "answer", "(IILReplicaStore$Clock;)V"⟩, 2), (⟨"ReplicaStore", "sendClock", "(III)I"⟩, 2), (⟨"ReplicaStoreModel", "newOperation", "(IIIII)I"⟩, 24), (⟨"ReplicaStoreModel", "doOperation", "(II)V"⟩, 24), (⟨"ReplicaStoreModel", "sendOperation", "(III)V"⟩, 24), (⟨"ReplicaStoreModel", "send", "(IIII[II)V"⟩, 24), (⟨"ReplicaStoreModel", "lay", "(IIZ)V"⟩, 24), (⟨"ReplicaStoreModel", "pileUp", "(IIII)I"⟩, 24), (⟨"ReplicaStoreModel", "was", "(II)Z"⟩, 24), (⟨"ReplicaStoreModel", "hasGreaterMark", "(II)Z"⟩, 24), (⟨"ReplicaStoreModel", "isRemoved", "(II)Z"⟩, 24), (⟨"ReplicaStoreModel", "isTaken", "(II)Z"⟩, 24), (⟨"ReplicaStoreModel", "isBefore", "(II)Z"⟩, 24), (⟨"ReplicaStoreModel", "isMessage", "(III)Z"⟩, 24)]
theorem lw_r2 : ∀ q ∈ lw_privs_2, lw_okq q := List.forall_mem_cons.mpr ⟨lw_p16, List.forall_mem_cons.mpr ⟨lw_p17, List.forall_mem_cons.mpr ⟨lw_p18, List.forall_mem_cons.mpr ⟨lw_p19, List.forall_mem_cons.mpr ⟨lw_p20, List.forall_mem_cons.mpr ⟨lw_p21, List.forall_mem_cons.mpr ⟨lw_p22, List.forall_mem_cons.mpr ⟨lw_p23, List.forall_mem_cons.mpr ⟨lw_p24, List.forall_mem_cons.mpr ⟨lw_p25, List.forall_mem_cons.mpr ⟨lw_p26, List.forall_mem_cons.mpr ⟨lw_p27, List.forall_mem_cons.mpr ⟨lw_p28, List.forall_mem_cons.mpr ⟨lw_p29, List.forall_mem_cons.mpr ⟨lw_p30, List.forall_mem_cons.mpr ⟨lw_p31, fun _ h => absurd h List.not_mem_nil⟩⟩⟩⟩⟩⟩⟩⟩⟩⟩⟩⟩⟩⟩⟩⟩
theorem lw_p32 : lw_okq (⟨"ReplicaStoreModel", "drop", "(II)V"⟩, 24) := ⟨⟨by decide +kernel, by decide +kernel⟩, List.mem_of_getElem? (i := 612) (by decide +kernel), List.mem_of_getElem? (i := 814) (by decide +kernel), List.mem_of_getElem? (i := 815) (by decide +kernel)⟩
theorem lw_p33 : lw_okq (⟨"ReplicaStoreModel", "moveMessage", "(II)V"⟩, 24) := ⟨⟨by decide +kernel, by decide +kernel⟩, List.mem_of_getElem? (i := 612) (by decide +kernel), List.mem_of_getElem? (i := 818) (by decide +kernel), List.mem_of_getElem? (i := 819) (by decide +kernel)⟩
theorem lw_p34 : lw_okq (⟨"ReplicaStoreModel", "take", "(II)I"⟩, 24) := ⟨⟨by decide +kernel, by decide +kernel⟩, List.mem_of_getElem? (i := 612) (by decide +kernel), List.mem_of_getElem? (i := 822) (by decide +kernel), List.mem_of_getElem? (i := 823) (by decide +kernel)⟩
theorem lw_p35 : lw_okq (⟨"ReplicaStoreModel", "isWaiting", "(II)Z"⟩, 24) := ⟨⟨by decide +kernel, by decide +kernel⟩, List.mem_of_getElem? (i := 612) (by decide +kernel), List.mem_of_getElem? (i := 826) (by decide +kernel), List.mem_of_getElem? (i := 827) (by decide +kernel)⟩
theorem lw_p36 : lw_okq (⟨"ReplicaStoreModel", "firstReady", "(I)I"⟩, 24) := ⟨⟨by decide +kernel, by decide +kernel⟩, List.mem_of_getElem? (i := 612) (by decide +kernel), List.mem_of_getElem? (i := 830) (by decide +kernel), List.mem_of_getElem? (i := 831) (by decide +kernel)⟩
theorem lw_p37 : lw_okq (⟨"ReplicaStoreModel", "isReady", "(II)Z"⟩, 24) := ⟨⟨by decide +kernel, by decide +kernel⟩, List.mem_of_getElem? (i := 612) (by decide +kernel), List.mem_of_getElem? (i := 834) (by decide +kernel), List.mem_of_getElem? (i := 835) (by decide +kernel)⟩
theorem lw_p38 : lw_okq (⟨"ReplicaStoreModel", "answer", "(II)V"⟩, 24) := ⟨⟨by decide +kernel, by decide +kernel⟩, List.mem_of_getElem? (i := 612) (by decide +kernel), List.mem_of_getElem? (i := 838) (by decide +kernel), List.mem_of_getElem? (i := 839) (by decide +kernel)⟩
theorem lw_p39 : lw_okq (⟨"ReplicaStoreModel", "isLogged", "(II)Z"⟩, 24) := ⟨⟨by decide +kernel, by decide +kernel⟩, List.mem_of_getElem? (i := 612) (by decide +kernel), List.mem_of_getElem? (i := 842) (by decide +kernel), List.mem_of_getElem? (i := 843) (by decide +kernel)⟩
theorem lw_p40 : lw_okq (⟨"ReplicaStoreModel", "knowsOf", "(III)I"⟩, 24) := ⟨⟨by decide +kernel, by decide +kernel⟩, List.mem_of_getElem? (i := 612) (by decide +kernel), List.mem_of_getElem? (i := 846) (by decide +kernel), List.mem_of_getElem? (i := 847) (by decide +kernel)⟩
theorem lw_p41 : lw_okq (⟨"ReplicaStoreModel", "speak", "(III)I"⟩, 24) := ⟨⟨by decide +kernel, by decide +kernel⟩, List.mem_of_getElem? (i := 612) (by decide +kernel), List.mem_of_getElem? (i := 862) (by decide +kernel), List.mem_of_getElem? (i := 863) (by decide +kernel)⟩
theorem lw_p42 : lw_okq (⟨"ReplicaStoreModel", "charactersOf", "(I)I"⟩, 24) := ⟨⟨by decide +kernel, by decide +kernel⟩, List.mem_of_getElem? (i := 612) (by decide +kernel), List.mem_of_getElem? (i := 886) (by decide +kernel), List.mem_of_getElem? (i := 887) (by decide +kernel)⟩
def lw_privs_3 : List (MethodName × Nat) := [(⟨"ReplicaStoreModel", "drop", "(II)V"⟩, 24), (⟨"ReplicaStoreModel", "moveMessage", "(II)V"⟩, 24), (⟨"ReplicaStoreModel", "take", "(II)I"⟩, 24), (⟨"ReplicaStoreModel", "isWaiting", "(II)Z"⟩, 24), (⟨"ReplicaStoreModel", "firstReady", "(I)I"⟩, 24), (⟨"ReplicaStoreModel", "isReady", "(II)Z"⟩, 24), (⟨"ReplicaStoreModel", "answer", "(II)V"⟩, 24), (⟨"ReplicaStoreModel", "isLogged", "(II)Z"⟩, 24), (⟨"ReplicaStoreModel", "knowsOf", "(III)I"⟩, 24), (⟨"ReplicaStoreModel", "speak", "(III)I"⟩, 24), (⟨"ReplicaStoreModel", "charactersOf", "(I)I"⟩, 24)]
theorem lw_r3 : ∀ q ∈ lw_privs_3, lw_okq q := List.forall_mem_cons.mpr ⟨lw_p32, List.forall_mem_cons.mpr ⟨lw_p33, List.forall_mem_cons.mpr ⟨lw_p34, List.forall_mem_cons.mpr ⟨lw_p35, List.forall_mem_cons.mpr ⟨lw_p36, List.forall_mem_cons.mpr ⟨lw_p37, List.forall_mem_cons.mpr ⟨lw_p38, List.forall_mem_cons.mpr ⟨lw_p39, List.forall_mem_cons.mpr ⟨lw_p40, List.forall_mem_cons.mpr ⟨lw_p41, List.forall_mem_cons.mpr ⟨lw_p42, fun _ h => absurd h List.not_mem_nil⟩⟩⟩⟩⟩⟩⟩⟩⟩⟩⟩
def lw_privs : List (MethodName × Nat) := lw_privs_1 ++ (lw_privs_2 ++ (lw_privs_3))
def lw_tbl : List Cond := k2_sels lw_privs ++ tables_1
theorem lw_privs_ok : ∀ q ∈ lw_privs, lw_okq q := by
  show ∀ q ∈ lw_privs_1 ++ (lw_privs_2 ++ (lw_privs_3)), lw_okq q
  exact List.forall_mem_append.mpr ⟨lw_r1, List.forall_mem_append.mpr ⟨lw_r2, lw_r3⟩⟩
-- ===== end of PART A; then your names; then what follows =====
end
section
/-! ===== BEGIN words of one list among another's, by their places ===== -/
theorem goodIn_r {big : List Cond} (ws : List Cond) (ps : List Nat) (hp : ws = ps.filterMap (fun i => big[i]?)) (h : ws.all goodWord = true) : GoodIn big ws := by
  intro w hw
  have h1 := List.all_eq_true.mp h w hw
  rw [hp] at hw
  obtain ⟨i, -, hi⟩ := List.mem_filterMap.mp hw
  have hm : w ∈ big := by first | exact List.mem_of_getElem? hi | exact List.getElem?_mem hi
  exact ⟨hm, good_of_word h1⟩
theorem goodIn_app {big a b : List Cond} (ha : GoodIn big a) (hb : GoodIn big b) : GoodIn big (a ++ b) := fun w h => (List.mem_append.mp h).elim (ha w) (hb w)
theorem goodIn_ca {big a b : List Cond} {c : Cond} (ha : GoodIn big (c :: a)) (hb : GoodIn big b) : GoodIn big (c :: (a ++ b)) := fun w h => (List.mem_cons.mp h).elim (fun e => ha w (List.mem_cons.mpr (Or.inl e))) (fun h => (List.mem_append.mp h).elim (fun h => ha w (List.mem_cons.mpr (Or.inr h))) (hb w))
theorem goodIn_sub {big ws : List Cond} (hm : ∀ w ∈ ws, w ∈ big) (h : ws.all goodWord = true) : GoodIn big ws := fun w hw => ⟨hm w hw, good_of_word (List.all_eq_true.mp h w hw)⟩
/-! ===== END ===== -/

/-! ===== BEGIN printed: names, fields, word lists, decode rows ===== -/
def RX0 : String := "ReplicaStore$Change"
def TX0 : u_T := fun k => match k with
  | 0 => ("ReplicaStore$Change", "kind", "I", true)
  | 1 => ("ReplicaStore$Change", "which", "I", true)
  | 2 => ("ReplicaStore$Change", "value", "I", true)
  | _ => ("ReplicaStore$Change", "target", "LReplicaStore$Operation;", true)
def tyX0 : Nat → FieldType := fun k => match k with
  | 0 => .int
  | 1 => .int
  | 2 => .int
  | _ => .object "ReplicaStore$Operation"
abbrev wsX00 : List Cond := u_ws RX0 TX0 4
theorem nmX0 : ∀ a, a < 4 → ∀ b, b < 4 → a ≠ b → (TX0 a).2.1 ≠ (TX0 b).2.1 := by decide +kernel
theorem tyX0_ok : ∀ k, k < 4 → parseFieldDescriptor (TX0 k).2.2.1 = some (tyX0 k) := by decide +kernel
abbrev cX0_init : ByteArray := prog_2_method_1_code
def yX0_init : MethodName := ⟨RX0, "<init>", "(IIILReplicaStore$Operation;)V"⟩
def RX1 : String := "ReplicaStore$Clock"
def TX1 : u_T := fun k => match k with
  | _ => ("ReplicaStore$Clock", "numbers", "[I", true)
def tyX1 : Nat → FieldType := fun k => match k with
  | _ => .array .int
abbrev wsX10 : List Cond := u_ws RX1 TX1 1
theorem nmX1 : ∀ a, a < 1 → ∀ b, b < 1 → a ≠ b → (TX1 a).2.1 ≠ (TX1 b).2.1 := by decide +kernel
theorem tyX1_ok : ∀ k, k < 1 → parseFieldDescriptor (TX1 k).2.2.1 = some (tyX1 k) := by decide +kernel
abbrev cX1_init : ByteArray := prog_3_method_1_code
def yX1_init : MethodName := ⟨RX1, "<init>", "([I)V"⟩
abbrev cX1_covers : ByteArray := prog_3_method_2_code
def yX1_covers : MethodName := ⟨RX1, "covers", "(LReplicaStore$Operation;)Z"⟩
abbrev cX1_raiseTo : ByteArray := prog_3_method_3_code
def yX1_raiseTo : MethodName := ⟨RX1, "raiseTo", "(LReplicaStore$Clock;)V"⟩
def RX2 : String := "ReplicaStore$Letter"
def TX2 : u_T := fun k => match k with
  | 0 => ("ReplicaStore$Letter", "origin", "LReplicaStore$Operation;", true)
  | 1 => ("ReplicaStore$Letter", "gone", "Z", false)
  | _ => ("ReplicaStore$Letter", "next", "LReplicaStore$Letter;", false)
def tyX2 : Nat → FieldType := fun k => match k with
  | 0 => .object "ReplicaStore$Operation"
  | 1 => .boolean
  | _ => .object "ReplicaStore$Letter"
abbrev wsX20 : List Cond := u_ws RX2 TX2 3
theorem nmX2 : ∀ a, a < 3 → ∀ b, b < 3 → a ≠ b → (TX2 a).2.1 ≠ (TX2 b).2.1 := by decide +kernel
theorem tyX2_ok : ∀ k, k < 3 → parseFieldDescriptor (TX2 k).2.2.1 = some (tyX2 k) := by decide +kernel
abbrev cX2_init : ByteArray := prog_4_method_1_code
def yX2_init : MethodName := ⟨RX2, "<init>", "(LReplicaStore$Operation;)V"⟩
def RX3 : String := "ReplicaStore$Message"
def TX3 : u_T := fun k => match k with
  | 0 => ("ReplicaStore$Message", "kind", "I", true)
  | 1 => ("ReplicaStore$Message", "sender", "I", true)
  | 2 => ("ReplicaStore$Message", "clock", "LReplicaStore$Clock;", true)
  | _ => ("ReplicaStore$Message", "operation", "LReplicaStore$Operation;", true)
def tyX3 : Nat → FieldType := fun k => match k with
  | 0 => .int
  | 1 => .int
  | 2 => .object "ReplicaStore$Clock"
  | _ => .object "ReplicaStore$Operation"
abbrev wsX30 : List Cond := u_ws RX3 TX3 4
theorem nmX3 : ∀ a, a < 4 → ∀ b, b < 4 → a ≠ b → (TX3 a).2.1 ≠ (TX3 b).2.1 := by decide +kernel
theorem tyX3_ok : ∀ k, k < 4 → parseFieldDescriptor (TX3 k).2.2.1 = some (tyX3 k) := by decide +kernel
abbrev cX3_init : ByteArray := prog_5_method_1_code
def yX3_init : MethodName := ⟨RX3, "<init>", "(LReplicaStore$Operation;)V"⟩
abbrev cX3_init_ : ByteArray := prog_5_method_2_code
def yX3_init_ : MethodName := ⟨RX3, "<init>", "(IILReplicaStore$Clock;)V"⟩
def RX4 : String := "ReplicaStore$Operation"
def TX4 : u_T := fun k => match k with
  | 0 => ("ReplicaStore$Operation", "change", "LReplicaStore$Change;", true)
  | 1 => ("ReplicaStore$Operation", "replica", "I", true)
  | 2 => ("ReplicaStore$Operation", "number", "I", true)
  | 3 => ("ReplicaStore$Operation", "time", "I", true)
  | _ => ("ReplicaStore$Operation", "clock", "LReplicaStore$Clock;", true)
def tyX4 : Nat → FieldType := fun k => match k with
  | 0 => .object "ReplicaStore$Change"
  | 1 => .int
  | 2 => .int
  | 3 => .int
  | _ => .object "ReplicaStore$Clock"
abbrev wsX40 : List Cond := u_ws RX4 TX4 5
theorem nmX4 : ∀ a, a < 5 → ∀ b, b < 5 → a ≠ b → (TX4 a).2.1 ≠ (TX4 b).2.1 := by decide +kernel
theorem tyX4_ok : ∀ k, k < 5 → parseFieldDescriptor (TX4 k).2.2.1 = some (tyX4 k) := by decide +kernel
abbrev cX4_init : ByteArray := prog_6_method_1_code
def yX4_init : MethodName := ⟨RX4, "<init>", "(LReplicaStore$Change;IILReplicaStore$Clock;)V"⟩
abbrev cX4_hasGreaterMarkThan : ByteArray := prog_6_method_2_code
def yX4_hasGreaterMarkThan : MethodName := ⟨RX4, "hasGreaterMarkThan", "(LReplicaStore$Operation;)Z"⟩
abbrev cX4_isOfSameElementAs : ByteArray := prog_6_method_3_code
def yX4_isOfSameElementAs : MethodName := ⟨RX4, "isOfSameElementAs", "(LReplicaStore$Operation;)Z"⟩
def RX5 : String := "ReplicaStore$Replica"
def TX5 : u_T := fun k => match k with
  | 0 => ("ReplicaStore$Replica", "self", "I", true)
  | 1 => ("ReplicaStore$Replica", "known", "[LReplicaStore$Clock;", true)
  | 2 => ("ReplicaStore$Replica", "sums", "[I", true)
  | 3 => ("ReplicaStore$Replica", "standingPuts", "Ljava/util/ArrayList;", true)
  | 4 => ("ReplicaStore$Replica", "written", "[LReplicaStore$Operation;", true)
  | 5 => ("ReplicaStore$Replica", "texts", "[LReplicaStore$Text;", true)
  | 6 => ("ReplicaStore$Replica", "log", "Ljava/util/ArrayList;", true)
  | 7 => ("ReplicaStore$Replica", "waiting", "Ljava/util/ArrayList;", true)
  | 8 => ("ReplicaStore$Replica", "time", "I", false)
  | _ => ("ReplicaStore$Replica", "up", "Z", false)
def tyX5 : Nat → FieldType := fun k => match k with
  | 0 => .int
  | 1 => .array (.object "ReplicaStore$Clock")
  | 2 => .array .int
  | 3 => .object "java/util/ArrayList"
  | 4 => .array (.object "ReplicaStore$Operation")
  | 5 => .array (.object "ReplicaStore$Text")
  | 6 => .object "java/util/ArrayList"
  | 7 => .object "java/util/ArrayList"
  | 8 => .int
  | _ => .boolean
abbrev wsX50 : List Cond := u_ws RX5 TX5 10
theorem nmX5 : ∀ a, a < 10 → ∀ b, b < 10 → a ≠ b → (TX5 a).2.1 ≠ (TX5 b).2.1 := by decide +kernel
theorem tyX5_ok : ∀ k, k < 10 → parseFieldDescriptor (TX5 k).2.2.1 = some (tyX5 k) := by decide +kernel
abbrev cX5_init : ByteArray := prog_7_method_1_code
def yX5_init : MethodName := ⟨RX5, "<init>", "(I)V"⟩
abbrev cX5_hasMostOperations : ByteArray := prog_7_method_2_code
def yX5_hasMostOperations : MethodName := ⟨RX5, "hasMostOperations", "()Z"⟩
abbrev cX5_ownClock : ByteArray := prog_7_method_3_code
def yX5_ownClock : MethodName := ⟨RX5, "ownClock", "()LReplicaStore$Clock;"⟩
abbrev cX5_elementBits : ByteArray := prog_7_method_4_code
def yX5_elementBits : MethodName := ⟨RX5, "elementBits", "(I)I"⟩
abbrev cX5_begin : ByteArray := prog_7_method_5_code
def yX5_begin : MethodName := ⟨RX5, "begin", "(LReplicaStore$Change;)LReplicaStore$Operation;"⟩
abbrev cX5_receive : ByteArray := prog_7_method_6_code
def yX5_receive : MethodName := ⟨RX5, "receive", "(LReplicaStore$Message;)I"⟩
abbrev cX5_isWaiting : ByteArray := prog_7_method_7_code
def yX5_isWaiting : MethodName := ⟨RX5, "isWaiting", "(LReplicaStore$Operation;)Z"⟩
abbrev cX5_finishWaiting : ByteArray := prog_7_method_8_code
def yX5_finishWaiting : MethodName := ⟨RX5, "finishWaiting", "()I"⟩
abbrev cX5_firstReady : ByteArray := prog_7_method_9_code
def yX5_firstReady : MethodName := ⟨RX5, "firstReady", "()I"⟩
abbrev cX5_isReady : ByteArray := prog_7_method_10_code
def yX5_isReady : MethodName := ⟨RX5, "isReady", "(LReplicaStore$Operation;)Z"⟩
abbrev cX5_finish : ByteArray := prog_7_method_11_code
def yX5_finish : MethodName := ⟨RX5, "finish", "(LReplicaStore$Operation;)V"⟩
abbrev cX5_apply : ByteArray := prog_7_method_12_code
def yX5_apply : MethodName := ⟨RX5, "apply", "(LReplicaStore$Operation;)V"⟩
abbrev cX5_dropPutsBefore : ByteArray := prog_7_method_13_code
def yX5_dropPutsBefore : MethodName := ⟨RX5, "dropPutsBefore", "(LReplicaStore$Operation;)V"⟩
abbrev cX5_keepGreaterMark : ByteArray := prog_7_method_14_code
def yX5_keepGreaterMark : MethodName := ⟨RX5, "keepGreaterMark", "(LReplicaStore$Operation;)V"⟩
abbrev cX5_isDoneEverywhere : ByteArray := prog_7_method_15_code
def yX5_isDoneEverywhere : MethodName := ⟨RX5, "isDoneEverywhere", "(LReplicaStore$Operation;)Z"⟩
abbrev cX5_shortenLog : ByteArray := prog_7_method_16_code
def yX5_shortenLog : MethodName := ⟨RX5, "shortenLog", "()V"⟩
def RX6 : String := "ReplicaStore$Text"
def TX6 : u_T := fun k => match k with
  | _ => ("ReplicaStore$Text", "beginning", "LReplicaStore$Letter;", true)
def tyX6 : Nat → FieldType := fun k => match k with
  | _ => .object "ReplicaStore$Letter"
abbrev wsX60 : List Cond := u_ws RX6 TX6 1
theorem nmX6 : ∀ a, a < 1 → ∀ b, b < 1 → a ≠ b → (TX6 a).2.1 ≠ (TX6 b).2.1 := by decide +kernel
theorem tyX6_ok : ∀ k, k < 1 → parseFieldDescriptor (TX6 k).2.2.1 = some (tyX6 k) := by decide +kernel
abbrev cX6_init : ByteArray := prog_8_method_1_code
def yX6_init : MethodName := ⟨RX6, "<init>", "()V"⟩
abbrev cX6_lettersEver : ByteArray := prog_8_method_2_code
def yX6_lettersEver : MethodName := ⟨RX6, "lettersEver", "()I"⟩
abbrev cX6_lettersThere : ByteArray := prog_8_method_3_code
def yX6_lettersThere : MethodName := ⟨RX6, "lettersThere", "()I"⟩
abbrev cX6_letterAt : ByteArray := prog_8_method_4_code
def yX6_letterAt : MethodName := ⟨RX6, "letterAt", "(I)LReplicaStore$Letter;"⟩
abbrev cX6_bringIn : ByteArray := prog_8_method_5_code
def yX6_bringIn : MethodName := ⟨RX6, "bringIn", "(LReplicaStore$Operation;)V"⟩
abbrev cX6_bringOut : ByteArray := prog_8_method_6_code
def yX6_bringOut : MethodName := ⟨RX6, "bringOut", "(LReplicaStore$Operation;)V"⟩
abbrev cX6_letterOf : ByteArray := prog_8_method_7_code
def yX6_letterOf : MethodName := ⟨RX6, "letterOf", "(LReplicaStore$Operation;)LReplicaStore$Letter;"⟩
def RX7 : String := "ReplicaStore$Way"
def TX7 : u_T := fun k => match k with
  | _ => ("ReplicaStore$Way", "messages", "Ljava/util/ArrayList;", true)
def tyX7 : Nat → FieldType := fun k => match k with
  | _ => .object "java/util/ArrayList"
abbrev wsX70 : List Cond := u_ws RX7 TX7 1
theorem nmX7 : ∀ a, a < 1 → ∀ b, b < 1 → a ≠ b → (TX7 a).2.1 ≠ (TX7 b).2.1 := by decide +kernel
theorem tyX7_ok : ∀ k, k < 1 → parseFieldDescriptor (TX7 k).2.2.1 = some (tyX7 k) := by decide +kernel
abbrev cX7_init : ByteArray := prog_9_method_1_code
def yX7_init : MethodName := ⟨RX7, "<init>", "()V"⟩
abbrev cX7_isFull : ByteArray := prog_9_method_2_code
def yX7_isFull : MethodName := ⟨RX7, "isFull", "()Z"⟩
abbrev cX7_send : ByteArray := prog_9_method_3_code
def yX7_send : MethodName := ⟨RX7, "send", "(LReplicaStore$Message;)V"⟩
def RX8 : String := "ReplicaStore"
def TX8 : u_T := fun k => match k with
  | 0 => ("ReplicaStore", "replicas", "[LReplicaStore$Replica;", true)
  | _ => ("ReplicaStore", "ways", "[LReplicaStore$Way;", true)
def tyX8 : Nat → FieldType := fun k => match k with
  | 0 => .array (.object "ReplicaStore$Replica")
  | _ => .array (.object "ReplicaStore$Way")
abbrev wsX80 : List Cond := u_ws RX8 TX8 2
theorem nmX8 : ∀ a, a < 2 → ∀ b, b < 2 → a ≠ b → (TX8 a).2.1 ≠ (TX8 b).2.1 := by decide +kernel
theorem tyX8_ok : ∀ k, k < 2 → parseFieldDescriptor (TX8 k).2.2.1 = some (tyX8 k) := by decide +kernel
abbrev cX8_init : ByteArray := prog_1_method_1_code
def yX8_init : MethodName := ⟨RX8, "<init>", "()V"⟩
abbrev cX8_add : ByteArray := prog_1_method_2_code
def yX8_add : MethodName := ⟨RX8, "add", "(III)I"⟩
abbrev cX8_put : ByteArray := prog_1_method_3_code
def yX8_put : MethodName := ⟨RX8, "put", "(III)I"⟩
abbrev cX8_take : ByteArray := prog_1_method_4_code
def yX8_take : MethodName := ⟨RX8, "take", "(III)I"⟩
abbrev cX8_write : ByteArray := prog_1_method_5_code
def yX8_write : MethodName := ⟨RX8, "write", "(III)I"⟩
abbrev cX8_insert : ByteArray := prog_1_method_6_code
def yX8_insert : MethodName := ⟨RX8, "insert", "(IIII)I"⟩
abbrev cX8_remove : ByteArray := prog_1_method_7_code
def yX8_remove : MethodName := ⟨RX8, "remove", "(III)I"⟩
abbrev cX8_deliver : ByteArray := prog_1_method_8_code
def yX8_deliver : MethodName := ⟨RX8, "deliver", "(III)I"⟩
abbrev cX8_copy : ByteArray := prog_1_method_9_code
def yX8_copy : MethodName := ⟨RX8, "copy", "(III)I"⟩
abbrev cX8_lose : ByteArray := prog_1_method_10_code
def yX8_lose : MethodName := ⟨RX8, "lose", "(III)I"⟩
abbrev cX8_ask : ByteArray := prog_1_method_11_code
def yX8_ask : MethodName := ⟨RX8, "ask", "(II)I"⟩
abbrev cX8_tell : ByteArray := prog_1_method_12_code
def yX8_tell : MethodName := ⟨RX8, "tell", "(II)I"⟩
abbrev cX8_power : ByteArray := prog_1_method_13_code
def yX8_power : MethodName := ⟨RX8, "power", "(IZ)I"⟩
abbrev cX8_counter : ByteArray := prog_1_method_14_code
def yX8_counter : MethodName := ⟨RX8, "counter", "(II)I"⟩
abbrev cX8_has : ByteArray := prog_1_method_15_code
def yX8_has : MethodName := ⟨RX8, "has", "(III)I"⟩
abbrev cX8_size : ByteArray := prog_1_method_16_code
def yX8_size : MethodName := ⟨RX8, "size", "(II)I"⟩
abbrev cX8_register : ByteArray := prog_1_method_17_code
def yX8_register : MethodName := ⟨RX8, "register", "(II)I"⟩
abbrev cX8_length : ByteArray := prog_1_method_18_code
def yX8_length : MethodName := ⟨RX8, "length", "(II)I"⟩
abbrev cX8_character : ByteArray := prog_1_method_19_code
def yX8_character : MethodName := ⟨RX8, "character", "(III)I"⟩
abbrev cX8_clock : ByteArray := prog_1_method_20_code
def yX8_clock : MethodName := ⟨RX8, "clock", "(II)I"⟩
abbrev cX8_knows : ByteArray := prog_1_method_21_code
def yX8_knows : MethodName := ⟨RX8, "knows", "(III)I"⟩
abbrev cX8_count : ByteArray := prog_1_method_22_code
def yX8_count : MethodName := ⟨RX8, "count", "(II)I"⟩
abbrev cX8_message : ByteArray := prog_1_method_23_code
def yX8_message : MethodName := ⟨RX8, "message", "(IIII)I"⟩
abbrev cX8_way : ByteArray := prog_1_method_24_code
def yX8_way : MethodName := ⟨RX8, "way", "(II)I"⟩
abbrev cX8_isReplica : ByteArray := prog_1_method_25_code
def yX8_isReplica : MethodName := ⟨RX8, "isReplica", "(I)Z"⟩
abbrev cX8_isOfPair : ByteArray := prog_1_method_26_code
def yX8_isOfPair : MethodName := ⟨RX8, "isOfPair", "(I)Z"⟩
abbrev cX8_isElement : ByteArray := prog_1_method_27_code
def yX8_isElement : MethodName := ⟨RX8, "isElement", "(I)Z"⟩
abbrev cX8_isCharacter : ByteArray := prog_1_method_28_code
def yX8_isCharacter : MethodName := ⟨RX8, "isCharacter", "(I)Z"⟩
abbrev cX8_isWay : ByteArray := prog_1_method_29_code
def yX8_isWay : MethodName := ⟨RX8, "isWay", "(II)Z"⟩
abbrev cX8_oneIf : ByteArray := prog_1_method_30_code
def yX8_oneIf : MethodName := ⟨RX8, "oneIf", "(Z)I"⟩
abbrev cX8_isOnWay : ByteArray := prog_1_method_31_code
def yX8_isOnWay : MethodName := ⟨RX8, "isOnWay", "(III)Z"⟩
abbrev cX8_wayBetween : ByteArray := prog_1_method_32_code
def yX8_wayBetween : MethodName := ⟨RX8, "wayBetween", "(II)LReplicaStore$Way;"⟩
abbrev cX8_operate : ByteArray := prog_1_method_33_code
def yX8_operate : MethodName := ⟨RX8, "operate", "(ILReplicaStore$Change;)I"⟩
abbrev cX8_sendClock : ByteArray := prog_1_method_34_code
def yX8_sendClock : MethodName := ⟨RX8, "sendClock", "(III)I"⟩
abbrev cX8_answer : ByteArray := prog_1_method_35_code
def yX8_answer : MethodName := ⟨RX8, "answer", "(IILReplicaStore$Clock;)V"⟩
def RX9 : String := "ReplicaStoreModel"
def TX9 : u_T := fun k => match k with
  | 0 => ("ReplicaStoreModel", "made", "[I", true)
  | 1 => ("ReplicaStoreModel", "kinds", "[I", true)
  | 2 => ("ReplicaStoreModel", "targets", "[I", true)
  | 3 => ("ReplicaStoreModel", "values", "[I", true)
  | 4 => ("ReplicaStoreModel", "behind", "[I", true)
  | 5 => ("ReplicaStoreModel", "times", "[I", true)
  | 6 => ("ReplicaStoreModel", "clocks", "[I", true)
  | 7 => ("ReplicaStoreModel", "isUp", "[Z", true)
  | 8 => ("ReplicaStoreModel", "own", "[I", true)
  | 9 => ("ReplicaStoreModel", "time", "[I", true)
  | 10 => ("ReplicaStoreModel", "doneMany", "[I", true)
  | 11 => ("ReplicaStoreModel", "done", "[I", true)
  | 12 => ("ReplicaStoreModel", "isDone", "[Z", true)
  | 13 => ("ReplicaStoreModel", "waitMany", "[I", true)
  | 14 => ("ReplicaStoreModel", "waiting", "[I", true)
  | 15 => ("ReplicaStoreModel", "known", "[I", true)
  | 16 => ("ReplicaStoreModel", "many", "[I", true)
  | 17 => ("ReplicaStoreModel", "messageKind", "[I", true)
  | 18 => ("ReplicaStoreModel", "messageOf", "[I", true)
  | 19 => ("ReplicaStoreModel", "messageClock", "[I", true)
  | 20 => ("ReplicaStoreModel", "order", "[I", true)
  | 21 => ("ReplicaStoreModel", "ordered", "I", false)
  | 22 => ("ReplicaStoreModel", "pile", "[I", true)
  | _ => ("ReplicaStoreModel", "asked", "[I", true)
def tyX9 : Nat → FieldType := fun k => match k with
  | 0 => .array .int
  | 1 => .array .int
  | 2 => .array .int
  | 3 => .array .int
  | 4 => .array .int
  | 5 => .array .int
  | 6 => .array .int
  | 7 => .array .boolean
  | 8 => .array .int
  | 9 => .array .int
  | 10 => .array .int
  | 11 => .array .int
  | 12 => .array .boolean
  | 13 => .array .int
  | 14 => .array .int
  | 15 => .array .int
  | 16 => .array .int
  | 17 => .array .int
  | 18 => .array .int
  | 19 => .array .int
  | 20 => .array .int
  | 21 => .int
  | 22 => .array .int
  | _ => .array .int
abbrev wsX90 : List Cond := u_ws RX9 TX9 24
theorem nmX9 : ∀ a, a < 24 → ∀ b, b < 24 → a ≠ b → (TX9 a).2.1 ≠ (TX9 b).2.1 := by decide +kernel
theorem tyX9_ok : ∀ k, k < 24 → parseFieldDescriptor (TX9 k).2.2.1 = some (tyX9 k) := by decide +kernel
abbrev cX9_init : ByteArray := prog_11_method_1_code
def yX9_init : MethodName := ⟨RX9, "<init>", "()V"⟩
abbrev cX9_in : ByteArray := prog_11_method_2_code
def yX9_in : MethodName := ⟨RX9, "in", "(III)Z"⟩
abbrev cX9_isReplica : ByteArray := prog_11_method_3_code
def yX9_isReplica : MethodName := ⟨RX9, "isReplica", "(I)Z"⟩
abbrev cX9_isTwo : ByteArray := prog_11_method_4_code
def yX9_isTwo : MethodName := ⟨RX9, "isTwo", "(I)Z"⟩
abbrev cX9_ownerOf : ByteArray := prog_11_method_5_code
def yX9_ownerOf : MethodName := ⟨RX9, "ownerOf", "(I)I"⟩
abbrev cX9_numberOf : ByteArray := prog_11_method_6_code
def yX9_numberOf : MethodName := ⟨RX9, "numberOf", "(I)I"⟩
abbrev cX9_isBefore : ByteArray := prog_11_method_7_code
def yX9_isBefore : MethodName := ⟨RX9, "isBefore", "(II)Z"⟩
abbrev cX9_hasGreaterMark : ByteArray := prog_11_method_8_code
def yX9_hasGreaterMark : MethodName := ⟨RX9, "hasGreaterMark", "(II)Z"⟩
abbrev cX9_was : ByteArray := prog_11_method_9_code
def yX9_was : MethodName := ⟨RX9, "was", "(II)Z"⟩
abbrev cX9_doOperation : ByteArray := prog_11_method_10_code
def yX9_doOperation : MethodName := ⟨RX9, "doOperation", "(II)V"⟩
abbrev cX9_newOperation : ByteArray := prog_11_method_11_code
def yX9_newOperation : MethodName := ⟨RX9, "newOperation", "(IIIII)I"⟩
abbrev cX9_add : ByteArray := prog_11_method_12_code
def yX9_add : MethodName := ⟨RX9, "add", "(III)I"⟩
abbrev cX9_isElement : ByteArray := prog_11_method_13_code
def yX9_isElement : MethodName := ⟨RX9, "isElement", "(III)Z"⟩
abbrev cX9_put : ByteArray := prog_11_method_14_code
def yX9_put : MethodName := ⟨RX9, "put", "(III)I"⟩
abbrev cX9_take : ByteArray := prog_11_method_15_code
def yX9_take : MethodName := ⟨RX9, "take", "(III)I"⟩
abbrev cX9_write : ByteArray := prog_11_method_16_code
def yX9_write : MethodName := ⟨RX9, "write", "(III)I"⟩
abbrev cX9_insert : ByteArray := prog_11_method_17_code
def yX9_insert : MethodName := ⟨RX9, "insert", "(IIII)I"⟩
abbrev cX9_remove : ByteArray := prog_11_method_18_code
def yX9_remove : MethodName := ⟨RX9, "remove", "(III)I"⟩
abbrev cX9_counter : ByteArray := prog_11_method_19_code
def yX9_counter : MethodName := ⟨RX9, "counter", "(II)I"⟩
abbrev cX9_isTaken : ByteArray := prog_11_method_20_code
def yX9_isTaken : MethodName := ⟨RX9, "isTaken", "(II)Z"⟩
abbrev cX9_has : ByteArray := prog_11_method_21_code
def yX9_has : MethodName := ⟨RX9, "has", "(III)I"⟩
abbrev cX9_size : ByteArray := prog_11_method_22_code
def yX9_size : MethodName := ⟨RX9, "size", "(II)I"⟩
abbrev cX9_register : ByteArray := prog_11_method_23_code
def yX9_register : MethodName := ⟨RX9, "register", "(II)I"⟩
abbrev cX9_isRemoved : ByteArray := prog_11_method_24_code
def yX9_isRemoved : MethodName := ⟨RX9, "isRemoved", "(II)Z"⟩
abbrev cX9_pileUp : ByteArray := prog_11_method_25_code
def yX9_pileUp : MethodName := ⟨RX9, "pileUp", "(IIII)I"⟩
abbrev cX9_lay : ByteArray := prog_11_method_26_code
def yX9_lay : MethodName := ⟨RX9, "lay", "(IIZ)V"⟩
abbrev cX9_length : ByteArray := prog_11_method_27_code
def yX9_length : MethodName := ⟨RX9, "length", "(II)I"⟩
abbrev cX9_character : ByteArray := prog_11_method_28_code
def yX9_character : MethodName := ⟨RX9, "character", "(III)I"⟩
abbrev cX9_isWay : ByteArray := prog_11_method_29_code
def yX9_isWay : MethodName := ⟨RX9, "isWay", "(II)Z"⟩
abbrev cX9_isMessage : ByteArray := prog_11_method_30_code
def yX9_isMessage : MethodName := ⟨RX9, "isMessage", "(III)Z"⟩
abbrev cX9_send : ByteArray := prog_11_method_31_code
def yX9_send : MethodName := ⟨RX9, "send", "(IIII[II)V"⟩
abbrev cX9_sendOperation : ByteArray := prog_11_method_32_code
def yX9_sendOperation : MethodName := ⟨RX9, "sendOperation", "(III)V"⟩
abbrev cX9_moveMessage : ByteArray := prog_11_method_33_code
def yX9_moveMessage : MethodName := ⟨RX9, "moveMessage", "(II)V"⟩
abbrev cX9_drop : ByteArray := prog_11_method_34_code
def yX9_drop : MethodName := ⟨RX9, "drop", "(II)V"⟩
abbrev cX9_knowsOf : ByteArray := prog_11_method_35_code
def yX9_knowsOf : MethodName := ⟨RX9, "knowsOf", "(III)I"⟩
abbrev cX9_isLogged : ByteArray := prog_11_method_36_code
def yX9_isLogged : MethodName := ⟨RX9, "isLogged", "(II)Z"⟩
abbrev cX9_isReady : ByteArray := prog_11_method_37_code
def yX9_isReady : MethodName := ⟨RX9, "isReady", "(II)Z"⟩
abbrev cX9_firstReady : ByteArray := prog_11_method_38_code
def yX9_firstReady : MethodName := ⟨RX9, "firstReady", "(I)I"⟩
abbrev cX9_isWaiting : ByteArray := prog_11_method_39_code
def yX9_isWaiting : MethodName := ⟨RX9, "isWaiting", "(II)Z"⟩
abbrev cX9_take_ : ByteArray := prog_11_method_40_code
def yX9_take_ : MethodName := ⟨RX9, "take", "(II)I"⟩
abbrev cX9_answer : ByteArray := prog_11_method_41_code
def yX9_answer : MethodName := ⟨RX9, "answer", "(II)V"⟩
abbrev cX9_deliver : ByteArray := prog_11_method_42_code
def yX9_deliver : MethodName := ⟨RX9, "deliver", "(III)I"⟩
abbrev cX9_copy : ByteArray := prog_11_method_43_code
def yX9_copy : MethodName := ⟨RX9, "copy", "(III)I"⟩
abbrev cX9_lose : ByteArray := prog_11_method_44_code
def yX9_lose : MethodName := ⟨RX9, "lose", "(III)I"⟩
abbrev cX9_speak : ByteArray := prog_11_method_45_code
def yX9_speak : MethodName := ⟨RX9, "speak", "(III)I"⟩
abbrev cX9_ask : ByteArray := prog_11_method_46_code
def yX9_ask : MethodName := ⟨RX9, "ask", "(II)I"⟩
abbrev cX9_tell : ByteArray := prog_11_method_47_code
def yX9_tell : MethodName := ⟨RX9, "tell", "(II)I"⟩
abbrev cX9_power : ByteArray := prog_11_method_48_code
def yX9_power : MethodName := ⟨RX9, "power", "(IZ)I"⟩
abbrev cX9_clock : ByteArray := prog_11_method_49_code
def yX9_clock : MethodName := ⟨RX9, "clock", "(II)I"⟩
abbrev cX9_knows : ByteArray := prog_11_method_50_code
def yX9_knows : MethodName := ⟨RX9, "knows", "(III)I"⟩
abbrev cX9_charactersOf : ByteArray := prog_11_method_51_code
def yX9_charactersOf : MethodName := ⟨RX9, "charactersOf", "(I)I"⟩
abbrev cX9_count : ByteArray := prog_11_method_52_code
def yX9_count : MethodName := ⟨RX9, "count", "(II)I"⟩
abbrev cX9_message : ByteArray := prog_11_method_53_code
def yX9_message : MethodName := ⟨RX9, "message", "(IIII)I"⟩
abbrev cX9_way : ByteArray := prog_11_method_54_code
def yX9_way : MethodName := ⟨RX9, "way", "(II)I"⟩
def RJx145de : String := "java/io/Serializable"
def TJx145de : u_T := fun k => match k with
  | _ => ("", "", "", false)
def tyJx145de : Nat → FieldType := fun k => match k with
  | _ => .int
abbrev wsJx145de0 : List Cond := u_ws RJx145de TJx145de 0
theorem nmJx145de : ∀ a, a < 0 → ∀ b, b < 0 → a ≠ b → (TJx145de a).2.1 ≠ (TJx145de b).2.1 := by decide +kernel
theorem tyJx145de_ok : ∀ k, k < 0 → parseFieldDescriptor (TJx145de k).2.2.1 = some (tyJx145de k) := by decide +kernel
def RJx8e188 : String := "java/lang/Cloneable"
def TJx8e188 : u_T := fun k => match k with
  | _ => ("", "", "", false)
def tyJx8e188 : Nat → FieldType := fun k => match k with
  | _ => .int
abbrev wsJx8e1880 : List Cond := u_ws RJx8e188 TJx8e188 0
theorem nmJx8e188 : ∀ a, a < 0 → ∀ b, b < 0 → a ≠ b → (TJx8e188 a).2.1 ≠ (TJx8e188 b).2.1 := by decide +kernel
theorem tyJx8e188_ok : ∀ k, k < 0 → parseFieldDescriptor (TJx8e188 k).2.2.1 = some (tyJx8e188 k) := by decide +kernel
def RJ6 : String := "java/lang/Integer"
def TJ6 : u_T := fun k => match k with
  | _ => ("", "", "", false)
def tyJ6 : Nat → FieldType := fun k => match k with
  | _ => .int
abbrev wsJ60 : List Cond := u_ws RJ6 TJ6 0
theorem nmJ6 : ∀ a, a < 0 → ∀ b, b < 0 → a ≠ b → (TJ6 a).2.1 ≠ (TJ6 b).2.1 := by decide +kernel
theorem tyJ6_ok : ∀ k, k < 0 → parseFieldDescriptor (TJ6 k).2.2.1 = some (tyJ6 k) := by decide +kernel
abbrev cJ6_bitCount_0f7a4 : ByteArray := prog_14_method_49_code
def yJ6_bitCount_0f7a4 : MethodName := ⟨RJ6, "bitCount", "(I)I"⟩
def RJxab1ab : String := "java/lang/Iterable"
def TJxab1ab : u_T := fun k => match k with
  | _ => ("", "", "", false)
def tyJxab1ab : Nat → FieldType := fun k => match k with
  | _ => .int
abbrev wsJxab1ab0 : List Cond := u_ws RJxab1ab TJxab1ab 0
theorem nmJxab1ab : ∀ a, a < 0 → ∀ b, b < 0 → a ≠ b → (TJxab1ab a).2.1 ≠ (TJxab1ab b).2.1 := by decide +kernel
theorem tyJxab1ab_ok : ∀ k, k < 0 → parseFieldDescriptor (TJxab1ab k).2.2.1 = some (tyJxab1ab k) := by decide +kernel
def RJ9 : String := "java/lang/Math"
def TJ9 : u_T := fun k => match k with
  | _ => ("", "", "", false)
def tyJ9 : Nat → FieldType := fun k => match k with
  | _ => .int
abbrev wsJ90 : List Cond := u_ws RJ9 TJ9 0
theorem nmJ9 : ∀ a, a < 0 → ∀ b, b < 0 → a ≠ b → (TJ9 a).2.1 ≠ (TJ9 b).2.1 := by decide +kernel
theorem tyJ9_ok : ∀ k, k < 0 → parseFieldDescriptor (TJ9 k).2.2.1 = some (tyJ9 k) := by decide +kernel
abbrev cJ9_max_7cf53 : ByteArray := prog_16_method_65_code
def yJ9_max_7cf53 : MethodName := ⟨RJ9, "max", "(II)I"⟩
abbrev cJ9_min_7cf53 : ByteArray := prog_16_method_69_code
def yJ9_min_7cf53 : MethodName := ⟨RJ9, "min", "(II)I"⟩
def RJ10 : String := "java/lang/System"
def TJ10 : u_T := fun k => match k with
  | _ => ("", "", "", false)
def tyJ10 : Nat → FieldType := fun k => match k with
  | _ => .int
abbrev wsJ100 : List Cond := u_ws RJ10 TJ10 0
theorem nmJ10 : ∀ a, a < 0 → ∀ b, b < 0 → a ≠ b → (TJ10 a).2.1 ≠ (TJ10 b).2.1 := by decide +kernel
theorem tyJ10_ok : ∀ k, k < 0 → parseFieldDescriptor (TJ10 k).2.2.1 = some (tyJ10 k) := by decide +kernel
def RJxa1e45 : String := "java/util/AbstractCollection"
def TJxa1e45 : u_T := fun k => match k with
  | _ => ("", "", "", false)
def tyJxa1e45 : Nat → FieldType := fun k => match k with
  | _ => .int
abbrev wsJxa1e450 : List Cond := u_ws RJxa1e45 TJxa1e45 0
theorem nmJxa1e45 : ∀ a, a < 0 → ∀ b, b < 0 → a ≠ b → (TJxa1e45 a).2.1 ≠ (TJxa1e45 b).2.1 := by decide +kernel
theorem tyJxa1e45_ok : ∀ k, k < 0 → parseFieldDescriptor (TJxa1e45 k).2.2.1 = some (tyJxa1e45 k) := by decide +kernel
abbrev cJxa1e45_init_da8c8 : ByteArray := prog_18_method_1_code
def yJxa1e45_init_da8c8 : MethodName := ⟨RJxa1e45, "<init>", "()V"⟩
def RJxc12de : String := "java/util/AbstractList"
def TJxc12de : u_T := fun k => match k with
  | _ => ("", "", "", false)
def tyJxc12de : Nat → FieldType := fun k => match k with
  | _ => .int
abbrev wsJxc12de0 : List Cond := u_ws RJxc12de TJxc12de 0
theorem nmJxc12de : ∀ a, a < 0 → ∀ b, b < 0 → a ≠ b → (TJxc12de a).2.1 ≠ (TJxc12de b).2.1 := by decide +kernel
theorem tyJxc12de_ok : ∀ k, k < 0 → parseFieldDescriptor (TJxc12de k).2.2.1 = some (tyJxc12de k) := by decide +kernel
abbrev cJxc12de_init_da8c8 : ByteArray := prog_19_method_1_code
def yJxc12de_init_da8c8 : MethodName := ⟨RJxc12de, "<init>", "()V"⟩
def RJx4a65c : String := "java/util/ArrayList"
def TJx4a65c : u_T := fun k => match k with
  | 0 => ("java/util/AbstractList", "modCount", "I", false)
  | 1 => ("java/util/ArrayList", "elementData", "[Ljava/lang/Object;", false)
  | _ => ("java/util/ArrayList", "size", "I", false)
def tyJx4a65c : Nat → FieldType := fun k => match k with
  | 0 => .int
  | 1 => .array (.object "java/lang/Object")
  | _ => .int
abbrev wsJx4a65c0 : List Cond := u_ws RJx4a65c TJx4a65c 3
theorem nmJx4a65c : ∀ a, a < 3 → ∀ b, b < 3 → a ≠ b → (TJx4a65c a).2.1 ≠ (TJx4a65c b).2.1 := by decide +kernel
theorem tyJx4a65c_ok : ∀ k, k < 3 → parseFieldDescriptor (TJx4a65c k).2.2.1 = some (tyJx4a65c k) := by decide +kernel
abbrev cJx4a65c_init_da8c8 : ByteArray := prog_20_method_2_code
def yJx4a65c_init_da8c8 : MethodName := ⟨RJx4a65c, "<init>", "()V"⟩
abbrev cJx4a65c_grow_92f84 : ByteArray := prog_20_method_6_code
def yJx4a65c_grow_92f84 : MethodName := ⟨RJx4a65c, "grow", "(I)[Ljava/lang/Object;"⟩
abbrev cJx4a65c_grow_d5877 : ByteArray := prog_20_method_7_code
def yJx4a65c_grow_d5877 : MethodName := ⟨RJx4a65c, "grow", "()[Ljava/lang/Object;"⟩
abbrev cJx4a65c_size_8abf5 : ByteArray := prog_20_method_8_code
def yJx4a65c_size_8abf5 : MethodName := ⟨RJx4a65c, "size", "()I"⟩
abbrev cJx4a65c_isEmpty_aae02 : ByteArray := prog_20_method_9_code
def yJx4a65c_isEmpty_aae02 : MethodName := ⟨RJx4a65c, "isEmpty", "()Z"⟩
abbrev cJx4a65c_elementData_915e3 : ByteArray := prog_20_method_18_code
def yJx4a65c_elementData_915e3 : MethodName := ⟨RJx4a65c, "elementData", "(I)Ljava/lang/Object;"⟩
abbrev cJx4a65c_get_915e3 : ByteArray := prog_20_method_20_code
def yJx4a65c_get_915e3 : MethodName := ⟨RJx4a65c, "get", "(I)Ljava/lang/Object;"⟩
abbrev cJx4a65c_add_72be8 : ByteArray := prog_20_method_24_code
def yJx4a65c_add_72be8 : MethodName := ⟨RJx4a65c, "add", "(Ljava/lang/Object;[Ljava/lang/Object;I)V"⟩
abbrev cJx4a65c_add_9ea2d : ByteArray := prog_20_method_25_code
def yJx4a65c_add_9ea2d : MethodName := ⟨RJx4a65c, "add", "(Ljava/lang/Object;)Z"⟩
abbrev cJx4a65c_remove_915e3 : ByteArray := prog_20_method_29_code
def yJx4a65c_remove_915e3 : MethodName := ⟨RJx4a65c, "remove", "(I)Ljava/lang/Object;"⟩
abbrev cJx4a65c_fastRemove_b59b0 : ByteArray := prog_20_method_39_code
def yJx4a65c_fastRemove_b59b0 : MethodName := ⟨RJx4a65c, "fastRemove", "([Ljava/lang/Object;I)V"⟩
def RJ7 : String := "java/util/Arrays"
def TJ7 : u_T := fun k => match k with
  | _ => ("", "", "", false)
def tyJ7 : Nat → FieldType := fun k => match k with
  | _ => .int
abbrev wsJ70 : List Cond := u_ws RJ7 TJ7 0
theorem nmJ7 : ∀ a, a < 0 → ∀ b, b < 0 → a ≠ b → (TJ7 a).2.1 ≠ (TJ7 b).2.1 := by decide +kernel
theorem tyJ7_ok : ∀ k, k < 0 → parseFieldDescriptor (TJ7 k).2.2.1 = some (tyJ7 k) := by decide +kernel
abbrev cJ7_copyOf_1904c : ByteArray := prog_21_method_119_code
def yJ7_copyOf_1904c : MethodName := ⟨RJ7, "copyOf", "([Ljava/lang/Object;I)[Ljava/lang/Object;"⟩
abbrev cJ7_copyOf_6403c : ByteArray := prog_21_method_120_code
def yJ7_copyOf_6403c : MethodName := ⟨RJ7, "copyOf", "([Ljava/lang/Object;ILjava/lang/Class;)[Ljava/lang/Object;"⟩
def RJx5ef63 : String := "java/util/Collection"
def TJx5ef63 : u_T := fun k => match k with
  | _ => ("", "", "", false)
def tyJx5ef63 : Nat → FieldType := fun k => match k with
  | _ => .int
abbrev wsJx5ef630 : List Cond := u_ws RJx5ef63 TJx5ef63 0
theorem nmJx5ef63 : ∀ a, a < 0 → ∀ b, b < 0 → a ≠ b → (TJx5ef63 a).2.1 ≠ (TJx5ef63 b).2.1 := by decide +kernel
theorem tyJx5ef63_ok : ∀ k, k < 0 → parseFieldDescriptor (TJx5ef63 k).2.2.1 = some (tyJx5ef63 k) := by decide +kernel
def RJxbd725 : String := "java/util/List"
def TJxbd725 : u_T := fun k => match k with
  | _ => ("", "", "", false)
def tyJxbd725 : Nat → FieldType := fun k => match k with
  | _ => .int
abbrev wsJxbd7250 : List Cond := u_ws RJxbd725 TJxbd725 0
theorem nmJxbd725 : ∀ a, a < 0 → ∀ b, b < 0 → a ≠ b → (TJxbd725 a).2.1 ≠ (TJxbd725 b).2.1 := by decide +kernel
theorem tyJxbd725_ok : ∀ k, k < 0 → parseFieldDescriptor (TJxbd725 k).2.2.1 = some (tyJxbd725 k) := by decide +kernel
def RJ15 : String := "java/util/Objects"
def TJ15 : u_T := fun k => match k with
  | _ => ("", "", "", false)
def tyJ15 : Nat → FieldType := fun k => match k with
  | _ => .int
abbrev wsJ150 : List Cond := u_ws RJ15 TJ15 0
theorem nmJ15 : ∀ a, a < 0 → ∀ b, b < 0 → a ≠ b → (TJ15 a).2.1 ≠ (TJ15 b).2.1 := by decide +kernel
theorem tyJ15_ok : ∀ k, k < 0 → parseFieldDescriptor (TJ15 k).2.2.1 = some (tyJ15 k) := by decide +kernel
abbrev cJ15_checkIndex_7cf53 : ByteArray := prog_24_method_17_code
def yJ15_checkIndex_7cf53 : MethodName := ⟨RJ15, "checkIndex", "(II)I"⟩
def RJxf0a74 : String := "java/util/RandomAccess"
def TJxf0a74 : u_T := fun k => match k with
  | _ => ("", "", "", false)
def tyJxf0a74 : Nat → FieldType := fun k => match k with
  | _ => .int
abbrev wsJxf0a740 : List Cond := u_ws RJxf0a74 TJxf0a74 0
theorem nmJxf0a74 : ∀ a, a < 0 → ∀ b, b < 0 → a ≠ b → (TJxf0a74 a).2.1 ≠ (TJxf0a74 b).2.1 := by decide +kernel
theorem tyJxf0a74_ok : ∀ k, k < 0 → parseFieldDescriptor (TJxf0a74 k).2.2.1 = some (tyJxf0a74 k) := by decide +kernel
def RJxa66e6 : String := "java/util/SequencedCollection"
def TJxa66e6 : u_T := fun k => match k with
  | _ => ("", "", "", false)
def tyJxa66e6 : Nat → FieldType := fun k => match k with
  | _ => .int
abbrev wsJxa66e60 : List Cond := u_ws RJxa66e6 TJxa66e6 0
theorem nmJxa66e6 : ∀ a, a < 0 → ∀ b, b < 0 → a ≠ b → (TJxa66e6 a).2.1 ≠ (TJxa66e6 b).2.1 := by decide +kernel
theorem tyJxa66e6_ok : ∀ k, k < 0 → parseFieldDescriptor (TJxa66e6 k).2.2.1 = some (tyJxa66e6 k) := by decide +kernel
def RJ8 : String := "jdk/internal/util/ArraysSupport"
def TJ8 : u_T := fun k => match k with
  | _ => ("", "", "", false)
def tyJ8 : Nat → FieldType := fun k => match k with
  | _ => .int
abbrev wsJ80 : List Cond := u_ws RJ8 TJ8 0
theorem nmJ8 : ∀ a, a < 0 → ∀ b, b < 0 → a ≠ b → (TJ8 a).2.1 ≠ (TJ8 b).2.1 := by decide +kernel
theorem tyJ8_ok : ∀ k, k < 0 → parseFieldDescriptor (TJ8 k).2.2.1 = some (tyJ8 k) := by decide +kernel
abbrev cJ8_newLength_cabcc : ByteArray := prog_27_method_27_code
def yJ8_newLength_cabcc : MethodName := ⟨RJ8, "newLength", "(III)I"⟩
abbrev cJ8_hugeLength_7cf53 : ByteArray := prog_27_method_28_code
def yJ8_hugeLength_7cf53 : MethodName := ⟨RJ8, "hugeLength", "(II)I"⟩
def RJ3 : String := "jdk/internal/util/Preconditions"
def TJ3 : u_T := fun k => match k with
  | _ => ("", "", "", false)
def tyJ3 : Nat → FieldType := fun k => match k with
  | _ => .int
abbrev wsJ30 : List Cond := u_ws RJ3 TJ3 0
theorem nmJ3 : ∀ a, a < 0 → ∀ b, b < 0 → a ≠ b → (TJ3 a).2.1 ≠ (TJ3 b).2.1 := by decide +kernel
theorem tyJ3_ok : ∀ k, k < 0 → parseFieldDescriptor (TJ3 k).2.2.1 = some (tyJ3 k) := by decide +kernel
abbrev cJ3_checkIndex_8e157 : ByteArray := prog_28_method_11_code
def yJ3_checkIndex_8e157 : MethodName := ⟨RJ3, "checkIndex", "(IILjava/util/function/BiFunction;)I"⟩
def RL : String := "ReplicaStoreLaw"
abbrev cL_law : ByteArray := code
def yL_law : MethodName := ⟨RL, "law", "([I)Z"⟩
end
section
/-! A SMALL MACHINE: the bytecode over typed maps. Its runs are tied to the real machine in part 05 and behind. -/
abbrev Hp : Type := (Nat → Nat) × (Nat → Nat) × (Nat → Nat → Int32) × (Nat → Nat → Option Nat) × (Nat → Nat → Int32) × (Nat → Nat → Option Nat) × (Nat → Nat) × Nat × Nat
def kd (h : Hp) : Nat → Nat := h.1
def ln (h : Hp) : Nat → Nat := h.2.1
def fI (h : Hp) : Nat → Nat → Int32 := h.2.2.1
def fR (h : Hp) : Nat → Nat → Option Nat := h.2.2.2.1
def aI (h : Hp) : Nat → Nat → Int32 := h.2.2.2.2.1
def aR (h : Hp) : Nat → Nat → Option Nat := h.2.2.2.2.2.1
def gc (h : Hp) : Nat → Nat := h.2.2.2.2.2.2.1
def sz (h : Hp) : Nat := h.2.2.2.2.2.2.2.1
def sl (h : Hp) : Nat := h.2.2.2.2.2.2.2.2
def wfI (h : Hp) (f a : Nat) (v : Int32) : Hp := (kd h, ln h, (fun f' a' => if f' = f ∧ a' = a then v else fI h f' a'), fR h, aI h, aR h, gc h, sz h, sl h)
def wfR (h : Hp) (f a : Nat) (v : Option Nat) : Hp := (kd h, ln h, fI h, (fun f' a' => if f' = f ∧ a' = a then v else fR h f' a'), aI h, aR h, gc h, sz h, sl h)
def waI (h : Hp) (a j : Nat) (v : Int32) : Hp := (kd h, ln h, fI h, fR h, (fun a' j' => if a' = a ∧ j' = j then v else aI h a' j'), aR h, gc h, sz h, sl h)
def waR (h : Hp) (a j : Nat) (v : Option Nat) : Hp := (kd h, ln h, fI h, fR h, aI h, (fun a' j' => if a' = a ∧ j' = j then v else aR h a' j'), gc h, sz h, sl h)
def hnew (h : Hp) (k n w : Nat) : Hp := ((fun a => if a = sz h then k else kd h a), (fun a => if a = sz h then n else ln h a), (fun f a => if a = sz h then 0 else fI h f a), (fun f a => if a = sz h then none else fR h f a), (fun a j => if a = sz h then 0 else aI h a j), (fun a j => if a = sz h then none else aR h a j), gc h, sz h + 1, sl h + w)
/-- a copy of the int array a -/
def hcln (h : Hp) (a : Nat) : Hp := ((fun q => if q = sz h then 20 else kd h q), (fun q => if q = sz h then ln h a else ln h q), (fun f q => if q = sz h then 0 else fI h f q), (fun f q => if q = sz h then none else fR h f q), (fun q j => if q = sz h then aI h a j else aI h q j), (fun q j => if q = sz h then none else aR h q j), gc h, sz h + 1, sl h + ln h a)
/-- n places of the reference array a0 from sp on, into a from dp on -/
def hcpy (h : Hp) (a0 sp a dp n : Nat) : Hp := (kd h, ln h, fI h, fR h, aI h, (fun q j => if q = a ∧ dp ≤ j ∧ j < dp + n then aR h a0 (sp + (j - dp)) else aR h q j), gc h, sz h, sl h)
abbrev Ent : Type := Nat × Instr × Nat × Nat × Nat × Nat
abbrev MI : Type := MethodName × ByteArray × Nat × Option FieldType × Nat × Nat × Nat × Nat × Nat × List Ent
def mY (m : MI) : MethodName := m.1
def mC (m : MI) : ByteArray := m.2.1
def mL (m : MI) : Nat := m.2.2.1
def mR (m : MI) : Option FieldType := m.2.2.2.1
def mF (m : MI) : Nat := m.2.2.2.2.1
def mO (m : MI) : Nat := m.2.2.2.2.2.1
def mW (m : MI) : Nat := m.2.2.2.2.2.2.1
def mN (m : MI) : Nat := m.2.2.2.2.2.2.2.1
def mK (m : MI) : Nat := m.2.2.2.2.2.2.2.2.1
def mP (m : MI) : List Ent := m.2.2.2.2.2.2.2.2.2
def sm_seek : List Ent → Nat → List Ent
  | [], _ => []
  | e :: r, t => bif Nat.beq e.1 t then e :: r else sm_seek r t
/-- a small number, or its negative -/
def sm_lit (a b : Nat) : Int32 := match b with
  | 0 => nI a
  | _ => - nI a
def sm_rf (v : Value) : Option (Option Nat) := match v with
  | .null => some none
  | .ref a => some (some a)
  | _ => none
def sm_in (v : Value) : Option Int32 := match v with
  | .int x => some x
  | _ => none
def sm_cmp (c : Jvm.ClassFile.Cond) (x y : Int32) : Bool := match c with
  | .eq => decide (x = y)
  | .ne => decide (x ≠ y)
  | .lt => decide (x < y)
  | .ge => decide (y ≤ x)
  | .gt => decide (y < x)
  | .le => decide (x ≤ y)
def sm_ix (i : Int32) (n : Nat) : Option Nat := if ¬ i < 0 ∧ i.toNatClampNeg < n then some i.toNatClampNeg else none
def sm_nat (i : Int32) : Option Nat := if ¬ i < 0 ∧ i.toNatClampNeg ≤ 100000000 then some i.toNatClampNeg else none
def sm_isA (k : Nat) : Bool := Nat.ble 20 k && Nat.ble k 27 || Nat.beq k 41 || Nat.beq k 42
def sm_elt (k : Nat) : Nat := match k with
  | 23 => 6
  | 24 => 8
  | 25 => 2
  | 26 => 5
  | 27 => 7
  | _ => 0
/-- may an object of kind k stand in an array of kind ka -/
def sm_may (ka k : Nat) : Bool := bif Nat.beq ka 22 then (Nat.beq k 4 || Nat.beq k 5) else (Nat.ble 23 ka && Nat.ble ka 27 && Nat.beq k (sm_elt ka))
def sm_tab (pc : Nat) (dflt lo hi : Int) (offs : Array Int) (x : Int32) : Option Nat := if x.toInt < lo ∨ hi < x.toInt then some ((pc : Int) + dflt).toNat else match offs[(x.toInt - lo).toNat]? with
  | some o => some ((pc : Int) + o).toNat
  | none => none
abbrev Lv : Type := List (Option Value)
abbrev Sg : Type := Option (List Ent × Lv × List Value × Hp)
def sm_ild (i : Nat) (code : List Ent) (ls : Lv) (st : List Value) (h : Hp) : Sg := match ls[i]? with
  | some (some v) => (match sm_in v with
    | some x => some (code, ls, .int x :: st, h)
    | none => none)
  | _ => none
def sm_ald (i : Nat) (code : List Ent) (ls : Lv) (st : List Value) (h : Hp) : Sg := match ls[i]? with
  | some (some v) => (match sm_rf v with
    | some _ => some (code, ls, v :: st, h)
    | none => none)
  | _ => none
def sm_ist (i : Nat) (code : List Ent) (ls : Lv) (st : List Value) (h : Hp) : Sg := match st with
  | v :: r => (match sm_in v with
    | some x => bif Nat.blt i ls.length then some (code, ls.set i (some (.int x)), r, h) else none
    | none => none)
  | _ => none
def sm_ast (i : Nat) (code : List Ent) (ls : Lv) (st : List Value) (h : Hp) : Sg := match st with
  | v :: r => (match sm_rf v with
    | some _ => bif Nat.blt i ls.length then some (code, ls.set i (some v), r, h) else none
    | none => none)
  | _ => none
def sm_bin (f : Int32 → Int32 → Int32) (code : List Ent) (ls : Lv) (st : List Value) (h : Hp) : Sg := match st with
  | v :: w :: r => (match sm_in v, sm_in w with
    | some y, some x => some (code, ls, .int (f x y) :: r, h)
    | _, _ => none)
  | _ => none
def sm_binD (f : Int32 → Int32 → Int32) (code : List Ent) (ls : Lv) (st : List Value) (h : Hp) : Sg := match st with
  | v :: w :: r => (match sm_in v, sm_in w with
    | some y, some x => if y = 0 then none else some (code, ls, .int (f x y) :: r, h)
    | _, _ => none)
  | _ => none
/-- an array and an index within it -/
def sm_arr (st : List Value) (h : Hp) : Option (Nat × Nat × List Value) := match st with
  | v :: w :: r => (match sm_in v, sm_rf w with
    | some i, some (some a) => (match sm_ix i (ln h a) with
      | some j => some (a, j, r)
      | none => none)
    | _, _ => none)
  | _ => none
def sm_step (m : MI) (e : Ent) (code : List Ent) (ls : Lv) (st : List Value) (h : Hp) : Sg := match e.2.1 with
  | .iconst _ => some (code, ls, .int (sm_lit e.2.2.2.1 e.2.2.2.2.1) :: st, h)
  | .bipush _ => some (code, ls, .int (sm_lit e.2.2.2.1 e.2.2.2.2.1) :: st, h)
  | .sipush _ => some (code, ls, .int (sm_lit e.2.2.2.1 e.2.2.2.2.1) :: st, h)
  | .ldc _ => (match e.2.2.2.2.2 with
    | 0 => some (code, ls, .int (sm_lit e.2.2.2.1 e.2.2.2.2.1) :: st, h)
    | _ => some (code, ls, .ref (gc h 1) :: st, h))
  | .ldc_w _ => some (code, ls, .int (sm_lit e.2.2.2.1 e.2.2.2.2.1) :: st, h)
  | .aconst_null => some (code, ls, .null :: st, h)
  | .iload_n k => sm_ild k.val code ls st h
  | .iload k => sm_ild k code ls st h
  | .aload_n k => sm_ald k.val code ls st h
  | .aload k => sm_ald k code ls st h
  | .istore_n k => sm_ist k.val code ls st h
  | .istore k => sm_ist k code ls st h
  | .astore_n k => sm_ast k.val code ls st h
  | .astore k => sm_ast k code ls st h
  | .iinc i _ => (match ls[i]? with
    | some (some v) => (match sm_in v with
      | some x => some (code, ls.set i (some (.int (x + sm_lit e.2.2.2.1 e.2.2.2.2.1))), st, h)
      | none => none)
    | _ => none)
  | .iadd => sm_bin (fun x y => x + y) code ls st h
  | .isub => sm_bin (fun x y => x - y) code ls st h
  | .imul => sm_bin (fun x y => x * y) code ls st h
  | .iand => sm_bin (fun x y => x &&& y) code ls st h
  | .ior => sm_bin (fun x y => x ||| y) code ls st h
  | .ishl => sm_bin (fun x y => x <<< (y &&& 31)) code ls st h
  | .ishr => sm_bin (fun x y => x >>> (y &&& 31)) code ls st h
  | .iushr => sm_bin (fun x y => (x.toUInt32 >>> (y.toUInt32 &&& Int32.toUInt32 31)).toInt32) code ls st h
  | .idiv => sm_binD (fun x y => x / y) code ls st h
  | .irem => sm_binD (fun x y => x - x / y * y) code ls st h
  | .dup => (match st with
    | v :: r => some (code, ls, v :: v :: r, h)
    | _ => none)
  | .dup_x1 => (match st with
    | v :: w :: r => some (code, ls, v :: w :: v :: r, h)
    | _ => none)
  | .dup2 => (match st with
    | v :: w :: r => some (code, ls, v :: w :: v :: w :: r, h)
    | _ => none)
  | .pop => (match st with
    | _ :: r => some (code, ls, r, h)
    | _ => none)
  | .ifCond c _ => (match st with
    | v :: r => (match sm_in v with
      | some x => if sm_cmp c x 0 = true then some (sm_seek (mP m) e.2.2.2.1, ls, r, h) else some (code, ls, r, h)
      | none => none)
    | _ => none)
  | .if_icmp c _ => (match st with
    | v :: w :: r => (match sm_in v, sm_in w with
      | some y, some x => if sm_cmp c x y = true then some (sm_seek (mP m) e.2.2.2.1, ls, r, h) else some (code, ls, r, h)
      | _, _ => none)
    | _ => none)
  | .if_acmp c _ => (match st with
    | v :: w :: r => (match sm_rf v, sm_rf w with
      | some y, some x => (match c with
        | .eq => if x = y then some (sm_seek (mP m) e.2.2.2.1, ls, r, h) else some (code, ls, r, h)
        | .ne => if x = y then some (code, ls, r, h) else some (sm_seek (mP m) e.2.2.2.1, ls, r, h))
      | _, _ => none)
    | _ => none)
  | .ifnull _ => (match st with
    | v :: r => (match sm_rf v with
      | some (some _) => some (code, ls, r, h)
      | some none => some (sm_seek (mP m) e.2.2.2.1, ls, r, h)
      | none => none)
    | _ => none)
  | .ifnonnull _ => (match st with
    | v :: r => (match sm_rf v with
      | some (some _) => some (sm_seek (mP m) e.2.2.2.1, ls, r, h)
      | some none => some (code, ls, r, h)
      | none => none)
    | _ => none)
  | .goto _ => some (sm_seek (mP m) e.2.2.2.1, ls, st, h)
  | .tableswitch d lo hi offs => (match st with
    | v :: r => (match sm_in v with
      | some x => (match sm_tab e.1 d lo hi offs x with
        | some t => some (sm_seek (mP m) t, ls, r, h)
        | none => none)
      | none => none)
    | _ => none)
  | .getfield _ => (match st with
    | v :: r => (match sm_rf v with
      | some (some a) => if kd h a = e.2.2.2.1 then (match e.2.2.2.2.2 with
        | 1 => some (code, ls, va_rf (fR h e.2.2.2.2.1 a) :: r, h)
        | _ => some (code, ls, .int (fI h e.2.2.2.2.1 a) :: r, h)) else none
      | _ => none)
    | _ => none)
  | .putfield _ => (match st with
    | v :: w :: r => (match sm_rf w with
      | some (some a) => if kd h a = e.2.2.2.1 then (match e.2.2.2.2.2 with
        | 1 => (match sm_rf v with
          | some x => some (code, ls, r, wfR h e.2.2.2.2.1 a x)
          | none => none)
        | 0 => (match sm_in v with
          | some x => some (code, ls, r, wfI h e.2.2.2.2.1 a x)
          | none => none)
        | _ => (match sm_in v with
          | some x => if x = 0 ∨ x = 1 then some (code, ls, r, wfI h e.2.2.2.2.1 a x) else none
          | none => none)) else none
      | _ => none)
    | _ => none)
  | .getstatic _ => some (code, ls, .ref (gc h 0) :: st, h)
  | .new _ => some (code, ls, .ref (sz h) :: st, hnew h e.2.2.2.1 0 e.2.2.2.2.1)
  | .newarray _ => (match st with
    | v :: r => (match sm_in v with
      | some i => (match sm_nat i with
        | some n => some (code, ls, .ref (sz h) :: r, hnew h e.2.2.2.1 n n)
        | none => none)
      | none => none)
    | _ => none)
  | .anewarray _ => (match st with
    | v :: r => (match sm_in v with
      | some i => (match sm_nat i with
        | some n => some (code, ls, .ref (sz h) :: r, hnew h e.2.2.2.1 n n)
        | none => none)
      | none => none)
    | _ => none)
  | .arraylength => (match st with
    | v :: r => (match sm_rf v with
      | some (some a) => if sm_isA (kd h a) = true then some (code, ls, .int (nI (ln h a)) :: r, h) else none
      | _ => none)
    | _ => none)
  | .iaload => (match sm_arr st h with
    | some (a, j, r) => if kd h a = 20 ∨ kd h a = 41 then some (code, ls, .int (aI h a j) :: r, h) else none
    | none => none)
  | .baload => (match sm_arr st h with
    | some (a, j, r) => if kd h a = 21 then some (code, ls, .int (aI h a j) :: r, h) else none
    | none => none)
  | .aaload => (match sm_arr st h with
    | some (a, j, r) => if 22 ≤ kd h a ∧ kd h a ≤ 27 then some (code, ls, va_rf (aR h a j) :: r, h) else none
    | none => none)
  | .iastore => (match st with
    | v :: st' => (match sm_in v, sm_arr st' h with
      | some x, some (a, j, r) => if kd h a = 20 then some (code, ls, r, waI h a j x) else none
      | _, _ => none)
    | _ => none)
  | .bastore => (match st with
    | v :: st' => (match sm_in v, sm_arr st' h with
      | some x, some (a, j, r) => if kd h a = 21 ∧ (x = 0 ∨ x = 1) then some (code, ls, r, waI h a j x) else none
      | _, _ => none)
    | _ => none)
  | .aastore => (match st with
    | v :: st' => (match sm_rf v, sm_arr st' h with
      | some none, some (a, j, r) => if 22 ≤ kd h a ∧ kd h a ≤ 27 then some (code, ls, r, waR h a j none) else none
      | some (some y), some (a, j, r) => if sm_may (kd h a) (kd h y) = true then some (code, ls, r, waR h a j (some y)) else none
      | _, _ => none)
    | _ => none)
  | .checkcast _ => (match st with
    | v :: r => (match sm_rf v with
      | some (some a) => if kd h a = e.2.2.2.1 then some (code, ls, v :: r, h) else none
      | _ => none)
    | _ => none)
  | .invokespecial _ => (match e.2.2.2.1 with
    | 1000 => (match st with
      | v :: r => (match sm_rf v with
        | some (some _) => if r.length ≤ 8 then some (code, ls, r, h) else none
        | _ => none)
      | _ => none)
    | _ => none)
  | .invokevirtual _ => (match e.2.2.2.1 with
    | 1001 => (match st with
      | v :: r => (match sm_rf v with
        | some (some a) => if kd h a = 20 ∧ r.length ≤ 8 then some (code, ls, .ref (sz h) :: r, hcln h a) else none
        | _ => none)
      | _ => none)
    | 1003 => (match st with
      | v :: r => (match sm_rf v with
        | some (some a) => if kd h a = 22 ∧ r.length ≤ 8 then some (code, ls, .ref (gc h 1) :: r, h) else none
        | _ => none)
      | _ => none)
    | _ => none)
  | .invokestatic _ => (match e.2.2.2.1 with
    | 1002 => (match st with
      | v1 :: v2 :: v3 :: v4 :: v5 :: r => (match sm_in v1, sm_in v2, sm_rf v3, sm_in v4, sm_rf v5 with
        | some n, some dp, some (some a), some sp, some (some a0) => if kd h a = 22 ∧ kd h a0 = 22 ∧ ¬ n < 0 ∧ ¬ dp < 0 ∧ ¬ sp < 0 ∧ sp.toNatClampNeg + n.toNatClampNeg ≤ ln h a0 ∧ dp.toNatClampNeg + n.toNatClampNeg ≤ ln h a ∧ r.length ≤ 8 then some (code, ls, r, hcpy h a0 sp.toNatClampNeg a dp.toNatClampNeg n.toNatClampNeg) else none
        | _, _, _, _, _ => none)
      | _ => none)
    | 1004 => (match st with
      | v :: w :: r => (match sm_in v, sm_in w with
        | some y, some x => if r.length ≤ 8 then some (code, ls, .int (if x < y then y else x) :: r, h) else none
        | _, _ => none)
      | _ => none)
    | 1005 => (match st with
      | v :: w :: r => (match sm_in v, sm_in w with
        | some y, some x => if r.length ≤ 8 then some (code, ls, .int (if y < x then y else x) :: r, h) else none
        | _, _ => none)
      | _ => none)
    | _ => none)
  | _ => none
def sm_ret (m : MI) (e : Ent) (st : List Value) (h : Hp) : Option (Option Value × Hp) := match e.2.1 with
  | .return_ => (match st, mR m with
    | [], none => some (none, h)
    | _, _ => none)
  | .ireturn => (match st with
    | [v] => (match sm_in v with
      | some x => (match mR m with
        | some .int => some (some (.int x), h)
        | some .boolean => if x = 0 ∨ x = 1 then some (some (.int x), h) else none
        | _ => none)
      | none => none)
    | _ => none)
  | .areturn => (match st with
    | [v] => (match sm_rf v with
      | some _ => (match mR m with
        | some (.object _) => some (some v, h)
        | some (.array _) => some (some v, h)
        | _ => none)
      | none => none)
    | _ => none)
  | _ => none
def sm_cls (e : Ent) : Nat := match e.2.2.2.2.2 with
  | 9 => 3
  | _ => (match e.2.1 with
    | .invokevirtual _ => if e.2.2.2.1 < 1000 then 1 else 0
    | .invokespecial _ => if e.2.2.2.1 < 1000 then 1 else 0
    | .invokestatic _ => if e.2.2.2.1 < 1000 then 1 else 0
    | .ireturn => 2
    | .areturn => 2
    | .return_ => 2
    | _ => 0)
/-- the callee's receiver: a reference, and of its kind -/
def sm_rcv (m : MI) (as : List Value) (h : Hp) : Bool := match mK m with
  | 0 => true
  | k + 1 => (match as with
    | .ref a :: _ => bif Nat.beq k 0 then true else Nat.beq (kd h a) k
    | _ => false)
def sm_l0 (m : MI) (as : List Value) : Lv := as.map some ++ List.replicate (mL m - as.length) none
def sm_run (MT : List MI) : Nat → MI → List Ent → Lv → List Value → Hp → Option (Option Value × Hp)
  | 0, _, _, _, _, _ => none
  | _ + 1, _, [], _, _, _ => none
  | n + 1, m, e :: code, ls, st, h => match sm_cls e with
    | 0 => (match sm_step m e code ls st h with
      | some q => sm_run MT n m q.1 q.2.1 q.2.2.1 q.2.2.2
      | none => none)
    | 1 => (match MT[e.2.2.2.1]? with
      | some m' => if mN m' ≤ st.length ∧ (st.drop (mN m')).length ≤ 8 ∧ sm_rcv m' (st.take (mN m')).reverse h = true then (match sm_run MT n m' (mP m') (sm_l0 m' (st.take (mN m')).reverse) [] h with
          | some q => sm_run MT n m code ls (q.1.toList ++ st.drop (mN m')) q.2
          | none => none) else none
      | none => none)
    | 2 => sm_ret m e st h
    | _ => none
end
section
def k_X0_init_0 : List Ent := (0, .aload_n 0, 1, 0, 0, 0) :: (1, .invokespecial 1, 3, 1000, 0, 1) :: (4, .aload_n 0, 1, 0, 0, 0) :: (5, .iload_n 1, 1, 0, 0, 0) :: (6, .putfield 7, 3, 1, 0, 0) :: (9, .aload_n 0, 1, 0, 0, 0) :: (10, .iload_n 2, 1, 0, 0, 0) :: (11, .putfield 13, 3, 1, 1, 0) :: (14, .aload_n 0, 1, 0, 0, 0) :: (15, .iload_n 3, 1, 0, 0, 0) :: (16, .putfield 16, 3, 1, 2, 0) :: (19, .aload_n 0, 1, 0, 0, 0) :: (20, .aload 4, 2, 0, 0, 0) :: (22, .putfield 19, 3, 1, 3, 1) :: (25, .return_, 1, 0, 0, 0) :: []
def M_X0_init : MI := (yX0_init, cX0_init, 5, none, 1, 28, 0, 5, 1, k_X0_init_0)
def k_X1_init_0 : List Ent := (0, .aload_n 0, 1, 0, 0, 0) :: (1, .invokespecial 3, 3, 1000, 0, 1) :: (4, .aload_n 0, 1, 0, 0, 0) :: (5, .aload_n 1, 1, 0, 0, 0) :: (6, .putfield 9, 3, 2, 32, 1) :: (9, .return_, 1, 0, 0, 0) :: []
def M_X1_init : MI := (yX1_init, cX1_init, 2, none, 1, 28, 1, 2, 1, k_X1_init_0)
def k_X1_covers_21 : List Ent := (21, .ireturn, 1, 0, 0, 0) :: []
def k_X1_covers_20 : List Ent := (20, .iconst 0, 1, 0, 0, 0) :: k_X1_covers_21
def k_X1_covers_0 : List Ent := (0, .aload_n 0, 1, 0, 0, 0) :: (1, .getfield 9, 3, 2, 32, 1) :: (4, .aload_n 1, 1, 0, 0, 0) :: (5, .getfield 15, 3, 5, 129, 0) :: (8, .iaload, 1, 0, 0, 0) :: (9, .aload_n 1, 1, 0, 0, 0) :: (10, .getfield 21, 3, 5, 130, 0) :: (13, .if_icmp .lt 7, 3, 20, 0, 0) :: (16, .iconst 1, 1, 1, 0, 0) :: (17, .goto 4, 3, 21, 0, 0) :: k_X1_covers_20
def M_X1_covers : MI := (yX1_covers, cX1_covers, 2, (some .boolean), 0, 0, 1, 2, 3, k_X1_covers_0)
theorem sk_X1_covers_20 : sm_seek (mP M_X1_covers) 20 = k_X1_covers_20 := rfl
theorem sk_X1_covers_21 : sm_seek (mP M_X1_covers) 21 = k_X1_covers_21 := rfl
def k_X1_raiseTo_34 : List Ent := (34, .return_, 1, 0, 0, 0) :: []
def k_X1_raiseTo_2 : List Ent := (2, .iload_n 2, 1, 0, 0, 0) :: (3, .iconst 4, 1, 4, 0, 0) :: (4, .if_icmp .ge 30, 3, 34, 0, 0) :: (7, .aload_n 0, 1, 0, 0, 0) :: (8, .getfield 9, 3, 2, 32, 1) :: (11, .iload_n 2, 1, 0, 0, 0) :: (12, .aload_n 0, 1, 0, 0, 0) :: (13, .getfield 9, 3, 2, 32, 1) :: (16, .iload_n 2, 1, 0, 0, 0) :: (17, .iaload, 1, 0, 0, 0) :: (18, .aload_n 1, 1, 0, 0, 0) :: (19, .getfield 9, 3, 2, 32, 1) :: (22, .iload_n 2, 1, 0, 0, 0) :: (23, .iaload, 1, 0, 0, 0) :: (24, .invokestatic 24, 3, 1004, 0, 2) :: (27, .iastore, 1, 0, 0, 0) :: (28, .iinc 2 1, 3, 1, 0, 0) :: (31, .goto (-29), 3, 2, 0, 0) :: k_X1_raiseTo_34
def k_X1_raiseTo_0 : List Ent := (0, .iconst 0, 1, 0, 0, 0) :: (1, .istore_n 2, 1, 0, 0, 0) :: k_X1_raiseTo_2
def M_X1_raiseTo : MI := (yX1_raiseTo, cX1_raiseTo, 3, none, 1, 28, 1, 2, 3, k_X1_raiseTo_0)
theorem sk_X1_raiseTo_2 : sm_seek (mP M_X1_raiseTo) 2 = k_X1_raiseTo_2 := rfl
theorem sk_X1_raiseTo_34 : sm_seek (mP M_X1_raiseTo) 34 = k_X1_raiseTo_34 := rfl
def k_X2_init_0 : List Ent := (0, .aload_n 0, 1, 0, 0, 0) :: (1, .invokespecial 1, 3, 1000, 0, 1) :: (4, .aload_n 0, 1, 0, 0, 0) :: (5, .aload_n 1, 1, 0, 0, 0) :: (6, .putfield 7, 3, 3, 64, 1) :: (9, .return_, 1, 0, 0, 0) :: []
def M_X2_init : MI := (yX2_init, cX2_init, 2, none, 1, 28, 2, 2, 1, k_X2_init_0)
def k_X3_init_0 : List Ent := (0, .aload_n 0, 1, 0, 0, 0) :: (1, .invokespecial 3, 3, 1000, 0, 1) :: (4, .aload_n 0, 1, 0, 0, 0) :: (5, .iconst 0, 1, 0, 0, 0) :: (6, .putfield 9, 3, 4, 96, 0) :: (9, .aload_n 0, 1, 0, 0, 0) :: (10, .aload_n 1, 1, 0, 0, 0) :: (11, .getfield 15, 3, 5, 129, 0) :: (14, .putfield 20, 3, 4, 97, 0) :: (17, .aload_n 0, 1, 0, 0, 0) :: (18, .aload_n 1, 1, 0, 0, 0) :: (19, .getfield 23, 3, 5, 132, 1) :: (22, .putfield 27, 3, 4, 98, 1) :: (25, .aload_n 0, 1, 0, 0, 0) :: (26, .aload_n 1, 1, 0, 0, 0) :: (27, .putfield 28, 3, 4, 99, 1) :: (30, .return_, 1, 0, 0, 0) :: []
def M_X3_init : MI := (yX3_init, cX3_init, 2, none, 1, 28, 3, 2, 1, k_X3_init_0)
def k_X3_init__0 : List Ent := (0, .aload_n 0, 1, 0, 0, 0) :: (1, .invokespecial 3, 3, 1000, 0, 1) :: (4, .aload_n 0, 1, 0, 0, 0) :: (5, .iload_n 1, 1, 0, 0, 0) :: (6, .putfield 9, 3, 4, 96, 0) :: (9, .aload_n 0, 1, 0, 0, 0) :: (10, .iload_n 2, 1, 0, 0, 0) :: (11, .putfield 20, 3, 4, 97, 0) :: (14, .aload_n 0, 1, 0, 0, 0) :: (15, .aload_n 3, 1, 0, 0, 0) :: (16, .putfield 27, 3, 4, 98, 1) :: (19, .aload_n 0, 1, 0, 0, 0) :: (20, .aconst_null, 1, 0, 0, 0) :: (21, .putfield 28, 3, 4, 99, 1) :: (24, .return_, 1, 0, 0, 0) :: []
def M_X3_init_ : MI := (yX3_init_, cX3_init_, 4, none, 1, 28, 3, 4, 1, k_X3_init__0)
def k_X4_init_0 : List Ent := (0, .aload_n 0, 1, 0, 0, 0) :: (1, .invokespecial 1, 3, 1000, 0, 1) :: (4, .aload_n 0, 1, 0, 0, 0) :: (5, .aload_n 1, 1, 0, 0, 0) :: (6, .putfield 7, 3, 5, 128, 1) :: (9, .aload_n 0, 1, 0, 0, 0) :: (10, .iload_n 2, 1, 0, 0, 0) :: (11, .putfield 13, 3, 5, 129, 0) :: (14, .aload_n 0, 1, 0, 0, 0) :: (15, .aload 4, 2, 0, 0, 0) :: (17, .getfield 17, 3, 2, 32, 1) :: (20, .iload_n 2, 1, 0, 0, 0) :: (21, .iaload, 1, 0, 0, 0) :: (22, .putfield 23, 3, 5, 130, 0) :: (25, .aload_n 0, 1, 0, 0, 0) :: (26, .iload_n 3, 1, 0, 0, 0) :: (27, .putfield 26, 3, 5, 131, 0) :: (30, .aload_n 0, 1, 0, 0, 0) :: (31, .aload 4, 2, 0, 0, 0) :: (33, .putfield 29, 3, 5, 132, 1) :: (36, .return_, 1, 0, 0, 0) :: []
def M_X4_init : MI := (yX4_init, cX4_init, 5, none, 1, 28, 4, 5, 1, k_X4_init_0)
def k_X4_hasGreaterMarkThan_38 : List Ent := (38, .ireturn, 1, 0, 0, 0) :: []
def k_X4_hasGreaterMarkThan_37 : List Ent := (37, .iconst 0, 1, 0, 0, 0) :: k_X4_hasGreaterMarkThan_38
def k_X4_hasGreaterMarkThan_33 : List Ent := (33, .iconst 1, 1, 1, 0, 0) :: (34, .goto 4, 3, 38, 0, 0) :: k_X4_hasGreaterMarkThan_37
def k_X4_hasGreaterMarkThan_0 : List Ent := (0, .aload_n 0, 1, 0, 0, 0) :: (1, .getfield 26, 3, 5, 131, 0) :: (4, .aload_n 1, 1, 0, 0, 0) :: (5, .getfield 26, 3, 5, 131, 0) :: (8, .if_icmp .gt 25, 3, 33, 0, 0) :: (11, .aload_n 0, 1, 0, 0, 0) :: (12, .getfield 26, 3, 5, 131, 0) :: (15, .aload_n 1, 1, 0, 0, 0) :: (16, .getfield 26, 3, 5, 131, 0) :: (19, .if_icmp .ne 18, 3, 37, 0, 0) :: (22, .aload_n 0, 1, 0, 0, 0) :: (23, .getfield 13, 3, 5, 129, 0) :: (26, .aload_n 1, 1, 0, 0, 0) :: (27, .getfield 13, 3, 5, 129, 0) :: (30, .if_icmp .le 7, 3, 37, 0, 0) :: k_X4_hasGreaterMarkThan_33
def M_X4_hasGreaterMarkThan : MI := (yX4_hasGreaterMarkThan, cX4_hasGreaterMarkThan, 2, (some .boolean), 0, 0, 4, 2, 6, k_X4_hasGreaterMarkThan_0)
theorem sk_X4_hasGreaterMarkThan_33 : sm_seek (mP M_X4_hasGreaterMarkThan) 33 = k_X4_hasGreaterMarkThan_33 := rfl
theorem sk_X4_hasGreaterMarkThan_37 : sm_seek (mP M_X4_hasGreaterMarkThan) 37 = k_X4_hasGreaterMarkThan_37 := rfl
theorem sk_X4_hasGreaterMarkThan_38 : sm_seek (mP M_X4_hasGreaterMarkThan) 38 = k_X4_hasGreaterMarkThan_38 := rfl
def k_X4_isOfSameElementAs_39 : List Ent := (39, .ireturn, 1, 0, 0, 0) :: []
def k_X4_isOfSameElementAs_38 : List Ent := (38, .iconst 0, 1, 0, 0, 0) :: k_X4_isOfSameElementAs_39
def k_X4_isOfSameElementAs_0 : List Ent := (0, .aload_n 0, 1, 0, 0, 0) :: (1, .getfield 7, 3, 5, 128, 1) :: (4, .getfield 33, 3, 1, 1, 0) :: (7, .aload_n 1, 1, 0, 0, 0) :: (8, .getfield 7, 3, 5, 128, 1) :: (11, .getfield 33, 3, 1, 1, 0) :: (14, .if_icmp .ne 24, 3, 38, 0, 0) :: (17, .aload_n 0, 1, 0, 0, 0) :: (18, .getfield 7, 3, 5, 128, 1) :: (21, .getfield 38, 3, 1, 2, 0) :: (24, .aload_n 1, 1, 0, 0, 0) :: (25, .getfield 7, 3, 5, 128, 1) :: (28, .getfield 38, 3, 1, 2, 0) :: (31, .if_icmp .ne 7, 3, 38, 0, 0) :: (34, .iconst 1, 1, 1, 0, 0) :: (35, .goto 4, 3, 39, 0, 0) :: k_X4_isOfSameElementAs_38
def M_X4_isOfSameElementAs : MI := (yX4_isOfSameElementAs, cX4_isOfSameElementAs, 2, (some .boolean), 0, 0, 4, 2, 6, k_X4_isOfSameElementAs_0)
theorem sk_X4_isOfSameElementAs_38 : sm_seek (mP M_X4_isOfSameElementAs) 38 = k_X4_isOfSameElementAs_38 := rfl
theorem sk_X4_isOfSameElementAs_39 : sm_seek (mP M_X4_isOfSameElementAs) 39 = k_X4_isOfSameElementAs_39 := rfl
def k_X5_init_146 : List Ent := (146, .return_, 1, 0, 0, 0) :: []
def k_X5_init_118 : List Ent := (118, .iload_n 2, 1, 0, 0, 0) :: (119, .aload_n 0, 1, 0, 0, 0) :: (120, .getfield 36, 3, 6, 165, 1) :: (123, .arraylength, 1, 0, 0, 0) :: (124, .if_icmp .ge 22, 3, 146, 0, 0) :: (127, .aload_n 0, 1, 0, 0, 0) :: (128, .getfield 36, 3, 6, 165, 1) :: (131, .iload_n 2, 1, 0, 0, 0) :: (132, .new 34, 3, 7, 1, 0) :: (135, .dup, 1, 0, 0, 0) :: (136, .invokespecial 60, 3, 26, 0, 3) :: (139, .aastore, 1, 0, 0, 0) :: (140, .iinc 2 1, 3, 1, 0, 0) :: (143, .goto (-25), 3, 118, 0, 0) :: k_X5_init_146
def k_X5_init_116 : List Ent := (116, .iconst 0, 1, 0, 0, 0) :: (117, .istore_n 2, 1, 0, 0, 0) :: k_X5_init_118
def k_X5_init_85 : List Ent := (85, .iload_n 2, 1, 0, 0, 0) :: (86, .aload_n 0, 1, 0, 0, 0) :: (87, .getfield 11, 3, 6, 161, 1) :: (90, .arraylength, 1, 0, 0, 0) :: (91, .if_icmp .ge 25, 3, 116, 0, 0) :: (94, .aload_n 0, 1, 0, 0, 0) :: (95, .getfield 11, 3, 6, 161, 1) :: (98, .iload_n 2, 1, 0, 0, 0) :: (99, .new 9, 3, 2, 1, 0) :: (102, .dup, 1, 0, 0, 0) :: (103, .iconst 4, 1, 4, 0, 0) :: (104, .newarray .int, 2, 20, 0, 0) :: (106, .invokespecial 57, 3, 1, 0, 1) :: (109, .aastore, 1, 0, 0, 0) :: (110, .iinc 2 1, 3, 1, 0, 0) :: (113, .goto (-28), 3, 85, 0, 0) :: k_X5_init_116
def k_X5_init_0 : List Ent := (0, .aload_n 0, 1, 0, 0, 0) :: (1, .invokespecial 3, 3, 1000, 0, 1) :: (4, .aload_n 0, 1, 0, 0, 0) :: (5, .iconst 4, 1, 4, 0, 0) :: (6, .anewarray 9, 3, 25, 0, 0) :: (9, .putfield 11, 3, 6, 161, 1) :: (12, .aload_n 0, 1, 0, 0, 0) :: (13, .iconst 2, 1, 2, 0, 0) :: (14, .newarray .int, 2, 20, 0, 0) :: (16, .putfield 17, 3, 6, 162, 1) :: (19, .aload_n 0, 1, 0, 0, 0) :: (20, .new 21, 3, 11, 3, 0) :: (23, .dup, 1, 0, 0, 0) :: (24, .invokespecial 23, 3, 128, 0, 1) :: (27, .putfield 24, 3, 6, 163, 1) :: (30, .aload_n 0, 1, 0, 0, 0) :: (31, .iconst 2, 1, 2, 0, 0) :: (32, .anewarray 28, 3, 26, 0, 0) :: (35, .putfield 30, 3, 6, 164, 1) :: (38, .aload_n 0, 1, 0, 0, 0) :: (39, .iconst 2, 1, 2, 0, 0) :: (40, .anewarray 34, 3, 27, 0, 0) :: (43, .putfield 36, 3, 6, 165, 1) :: (46, .aload_n 0, 1, 0, 0, 0) :: (47, .new 21, 3, 11, 3, 0) :: (50, .dup, 1, 0, 0, 0) :: (51, .invokespecial 23, 3, 128, 0, 1) :: (54, .putfield 40, 3, 6, 166, 1) :: (57, .aload_n 0, 1, 0, 0, 0) :: (58, .new 21, 3, 11, 3, 0) :: (61, .dup, 1, 0, 0, 0) :: (62, .invokespecial 23, 3, 128, 0, 1) :: (65, .putfield 43, 3, 6, 167, 1) :: (68, .aload_n 0, 1, 0, 0, 0) :: (69, .iconst 0, 1, 0, 0, 0) :: (70, .putfield 46, 3, 6, 168, 0) :: (73, .aload_n 0, 1, 0, 0, 0) :: (74, .iconst 1, 1, 1, 0, 0) :: (75, .putfield 50, 3, 6, 169, 2) :: (78, .aload_n 0, 1, 0, 0, 0) :: (79, .iload_n 1, 1, 0, 0, 0) :: (80, .putfield 54, 3, 6, 160, 0) :: (83, .iconst 0, 1, 0, 0, 0) :: (84, .istore_n 2, 1, 0, 0, 0) :: k_X5_init_85
def M_X5_init : MI := (yX5_init, cX5_init, 3, none, 4, 88, 5, 2, 1, k_X5_init_0)
theorem sk_X5_init_85 : sm_seek (mP M_X5_init) 85 = k_X5_init_85 := rfl
theorem sk_X5_init_116 : sm_seek (mP M_X5_init) 116 = k_X5_init_116 := rfl
theorem sk_X5_init_118 : sm_seek (mP M_X5_init) 118 = k_X5_init_118 := rfl
theorem sk_X5_init_146 : sm_seek (mP M_X5_init) 146 = k_X5_init_146 := rfl
def k_X5_hasMostOperations_27 : List Ent := (27, .ireturn, 1, 0, 0, 0) :: []
def k_X5_hasMostOperations_26 : List Ent := (26, .iconst 0, 1, 0, 0, 0) :: k_X5_hasMostOperations_27
def k_X5_hasMostOperations_0 : List Ent := (0, .aload_n 0, 1, 0, 0, 0) :: (1, .getfield 11, 3, 6, 161, 1) :: (4, .aload_n 0, 1, 0, 0, 0) :: (5, .getfield 54, 3, 6, 160, 0) :: (8, .aaload, 1, 0, 0, 0) :: (9, .getfield 61, 3, 2, 32, 1) :: (12, .aload_n 0, 1, 0, 0, 0) :: (13, .getfield 54, 3, 6, 160, 0) :: (16, .iaload, 1, 0, 0, 0) :: (17, .bipush 60, 2, 60, 0, 0) :: (19, .if_icmp .lt 7, 3, 26, 0, 0) :: (22, .iconst 1, 1, 1, 0, 0) :: (23, .goto 4, 3, 27, 0, 0) :: k_X5_hasMostOperations_26
def M_X5_hasMostOperations : MI := (yX5_hasMostOperations, cX5_hasMostOperations, 1, (some .boolean), 0, 0, 5, 1, 7, k_X5_hasMostOperations_0)
theorem sk_X5_hasMostOperations_26 : sm_seek (mP M_X5_hasMostOperations) 26 = k_X5_hasMostOperations_26 := rfl
theorem sk_X5_hasMostOperations_27 : sm_seek (mP M_X5_hasMostOperations) 27 = k_X5_hasMostOperations_27 := rfl
def k_X5_ownClock_0 : List Ent := (0, .new 9, 3, 2, 1, 0) :: (3, .dup, 1, 0, 0, 0) :: (4, .aload_n 0, 1, 0, 0, 0) :: (5, .getfield 11, 3, 6, 161, 1) :: (8, .aload_n 0, 1, 0, 0, 0) :: (9, .getfield 54, 3, 6, 160, 0) :: (12, .aaload, 1, 0, 0, 0) :: (13, .getfield 61, 3, 2, 32, 1) :: (16, .invokevirtual 64, 3, 1001, 0, 0) :: (19, .checkcast 65, 3, 20, 0, 0) :: (22, .invokespecial 57, 3, 1, 0, 1) :: (25, .areturn, 1, 0, 0, 0) :: []
def M_X5_ownClock : MI := (yX5_ownClock, cX5_ownClock, 1, (some (.object "ReplicaStore$Clock")), 2, 49, 5, 1, 7, k_X5_ownClock_0)
def k_X5_elementBits_56 : List Ent := (56, .iload_n 2, 1, 0, 0, 0) :: (57, .ireturn, 1, 0, 0, 0) :: []
def k_X5_elementBits_50 : List Ent := (50, .iinc 3 1, 3, 1, 0, 0) :: (53, .goto (-49), 3, 4, 0, 0) :: k_X5_elementBits_56
def k_X5_elementBits_4 : List Ent := (4, .iload_n 3, 1, 0, 0, 0) :: (5, .aload_n 0, 1, 0, 0, 0) :: (6, .getfield 24, 3, 6, 163, 1) :: (9, .invokevirtual 69, 3, 131, 0, 0) :: (12, .if_icmp .ge 44, 3, 56, 0, 0) :: (15, .aload_n 0, 1, 0, 0, 0) :: (16, .getfield 24, 3, 6, 163, 1) :: (19, .iload_n 3, 1, 0, 0, 0) :: (20, .invokevirtual 73, 3, 134, 0, 0) :: (23, .checkcast 28, 3, 5, 0, 0) :: (26, .getfield 77, 3, 5, 128, 1) :: (29, .astore 4, 2, 0, 0, 0) :: (31, .aload 4, 2, 0, 0, 0) :: (33, .getfield 81, 3, 1, 1, 0) :: (36, .iload_n 1, 1, 0, 0, 0) :: (37, .if_icmp .ne 13, 3, 50, 0, 0) :: (40, .iload_n 2, 1, 0, 0, 0) :: (41, .iconst 1, 1, 1, 0, 0) :: (42, .aload 4, 2, 0, 0, 0) :: (44, .getfield 86, 3, 1, 2, 0) :: (47, .ishl, 1, 0, 0, 0) :: (48, .ior, 1, 0, 0, 0) :: (49, .istore_n 2, 1, 0, 0, 0) :: k_X5_elementBits_50
def k_X5_elementBits_0 : List Ent := (0, .iconst 0, 1, 0, 0, 0) :: (1, .istore_n 2, 1, 0, 0, 0) :: (2, .iconst 0, 1, 0, 0, 0) :: (3, .istore_n 3, 1, 0, 0, 0) :: k_X5_elementBits_4
def M_X5_elementBits : MI := (yX5_elementBits, cX5_elementBits, 5, (some .int), 4, 92, 5, 2, 7, k_X5_elementBits_0)
theorem sk_X5_elementBits_4 : sm_seek (mP M_X5_elementBits) 4 = k_X5_elementBits_4 := rfl
theorem sk_X5_elementBits_50 : sm_seek (mP M_X5_elementBits) 50 = k_X5_elementBits_50 := rfl
theorem sk_X5_elementBits_56 : sm_seek (mP M_X5_elementBits) 56 = k_X5_elementBits_56 := rfl
def k_X5_begin_0 : List Ent := (0, .aload_n 0, 1, 0, 0, 0) :: (1, .invokevirtual 89, 3, 12, 0, 0) :: (4, .astore_n 2, 1, 0, 0, 0) :: (5, .aload_n 2, 1, 0, 0, 0) :: (6, .getfield 61, 3, 2, 32, 1) :: (9, .aload_n 0, 1, 0, 0, 0) :: (10, .getfield 54, 3, 6, 160, 0) :: (13, .dup2, 1, 0, 0, 0) :: (14, .iaload, 1, 0, 0, 0) :: (15, .iconst 1, 1, 1, 0, 0) :: (16, .iadd, 1, 0, 0, 0) :: (17, .iastore, 1, 0, 0, 0) :: (18, .new 28, 3, 5, 5, 0) :: (21, .dup, 1, 0, 0, 0) :: (22, .aload_n 1, 1, 0, 0, 0) :: (23, .aload_n 0, 1, 0, 0, 0) :: (24, .getfield 54, 3, 6, 160, 0) :: (27, .aload_n 0, 1, 0, 0, 0) :: (28, .getfield 46, 3, 6, 168, 0) :: (31, .iconst 1, 1, 1, 0, 0) :: (32, .iadd, 1, 0, 0, 0) :: (33, .aload_n 2, 1, 0, 0, 0) :: (34, .invokespecial 93, 3, 7, 0, 1) :: (37, .astore_n 3, 1, 0, 0, 0) :: (38, .aload_n 0, 1, 0, 0, 0) :: (39, .aload_n 3, 1, 0, 0, 0) :: (40, .invokevirtual 96, 3, 20, 0, 0) :: (43, .aload_n 3, 1, 0, 0, 0) :: (44, .areturn, 1, 0, 0, 0) :: []
def M_X5_begin : MI := (yX5_begin, cX5_begin, 4, (some (.object "ReplicaStore$Operation")), 9, 203, 5, 2, 7, k_X5_begin_0)
def k_X5_receive_66 : List Ent := (66, .aload_n 0, 1, 0, 0, 0) :: (67, .getfield 43, 3, 6, 167, 1) :: (70, .aload_n 2, 1, 0, 0, 0) :: (71, .invokevirtual 127, 3, 136, 0, 0) :: (74, .pop, 1, 0, 0, 0) :: (75, .aload_n 0, 1, 0, 0, 0) :: (76, .invokevirtual 131, 3, 17, 0, 0) :: (79, .ireturn, 1, 0, 0, 0) :: []
def k_X5_receive_64 : List Ent := (64, .iconst 0, 1, 0, 0, 0) :: (65, .ireturn, 1, 0, 0, 0) :: k_X5_receive_66
def k_X5_receive_31 : List Ent := (31, .aload_n 1, 1, 0, 0, 0) :: (32, .getfield 116, 3, 4, 99, 1) :: (35, .astore_n 2, 1, 0, 0, 0) :: (36, .aload_n 2, 1, 0, 0, 0) :: (37, .ifnull 27, 3, 64, 0, 0) :: (40, .aload_n 0, 1, 0, 0, 0) :: (41, .getfield 11, 3, 6, 161, 1) :: (44, .aload_n 0, 1, 0, 0, 0) :: (45, .getfield 54, 3, 6, 160, 0) :: (48, .aaload, 1, 0, 0, 0) :: (49, .aload_n 2, 1, 0, 0, 0) :: (50, .invokevirtual 120, 3, 2, 0, 0) :: (53, .ifCond .ne 11, 3, 64, 0, 0) :: (56, .aload_n 0, 1, 0, 0, 0) :: (57, .aload_n 2, 1, 0, 0, 0) :: (58, .invokevirtual 124, 3, 16, 0, 0) :: (61, .ifCond .eq 5, 3, 66, 0, 0) :: k_X5_receive_64
def k_X5_receive_0 : List Ent := (0, .aload_n 1, 1, 0, 0, 0) :: (1, .getfield 100, 3, 4, 97, 0) :: (4, .aload_n 0, 1, 0, 0, 0) :: (5, .getfield 54, 3, 6, 160, 0) :: (8, .if_icmp .eq 23, 3, 31, 0, 0) :: (11, .aload_n 0, 1, 0, 0, 0) :: (12, .getfield 11, 3, 6, 161, 1) :: (15, .aload_n 1, 1, 0, 0, 0) :: (16, .getfield 100, 3, 4, 97, 0) :: (19, .aaload, 1, 0, 0, 0) :: (20, .aload_n 1, 1, 0, 0, 0) :: (21, .getfield 105, 3, 4, 98, 1) :: (24, .invokevirtual 109, 3, 3, 0, 0) :: (27, .aload_n 0, 1, 0, 0, 0) :: (28, .invokevirtual 113, 3, 25, 0, 0) :: k_X5_receive_31
def M_X5_receive : MI := (yX5_receive, cX5_receive, 3, (some .int), 10, 226, 5, 2, 7, k_X5_receive_0)
theorem sk_X5_receive_31 : sm_seek (mP M_X5_receive) 31 = k_X5_receive_31 := rfl
theorem sk_X5_receive_64 : sm_seek (mP M_X5_receive) 64 = k_X5_receive_64 := rfl
theorem sk_X5_receive_66 : sm_seek (mP M_X5_receive) 66 = k_X5_receive_66 := rfl
def k_X5_isWaiting_33 : List Ent := (33, .iconst 0, 1, 0, 0, 0) :: (34, .ireturn, 1, 0, 0, 0) :: []
def k_X5_isWaiting_27 : List Ent := (27, .iinc 2 1, 3, 1, 0, 0) :: (30, .goto (-28), 3, 2, 0, 0) :: k_X5_isWaiting_33
def k_X5_isWaiting_2 : List Ent := (2, .iload_n 2, 1, 0, 0, 0) :: (3, .aload_n 0, 1, 0, 0, 0) :: (4, .getfield 43, 3, 6, 167, 1) :: (7, .invokevirtual 69, 3, 131, 0, 0) :: (10, .if_icmp .ge 23, 3, 33, 0, 0) :: (13, .aload_n 0, 1, 0, 0, 0) :: (14, .getfield 43, 3, 6, 167, 1) :: (17, .iload_n 2, 1, 0, 0, 0) :: (18, .invokevirtual 73, 3, 134, 0, 0) :: (21, .aload_n 1, 1, 0, 0, 0) :: (22, .if_acmp .ne 5, 3, 27, 0, 0) :: (25, .iconst 1, 1, 1, 0, 0) :: (26, .ireturn, 1, 0, 0, 0) :: k_X5_isWaiting_27
def k_X5_isWaiting_0 : List Ent := (0, .iconst 0, 1, 0, 0, 0) :: (1, .istore_n 2, 1, 0, 0, 0) :: k_X5_isWaiting_2
def M_X5_isWaiting : MI := (yX5_isWaiting, cX5_isWaiting, 3, (some .boolean), 4, 92, 5, 2, 7, k_X5_isWaiting_0)
theorem sk_X5_isWaiting_2 : sm_seek (mP M_X5_isWaiting) 2 = k_X5_isWaiting_2 := rfl
theorem sk_X5_isWaiting_27 : sm_seek (mP M_X5_isWaiting) 27 = k_X5_isWaiting_27 := rfl
theorem sk_X5_isWaiting_33 : sm_seek (mP M_X5_isWaiting) 33 = k_X5_isWaiting_33 := rfl
def k_X5_finishWaiting_48 : List Ent := (48, .iload_n 1, 1, 0, 0, 0) :: (49, .ireturn, 1, 0, 0, 0) :: []
def k_X5_finishWaiting_27 : List Ent := (27, .aload_n 0, 1, 0, 0, 0) :: (28, .aload_n 0, 1, 0, 0, 0) :: (29, .getfield 43, 3, 6, 167, 1) :: (32, .iload_n 3, 1, 0, 0, 0) :: (33, .invokevirtual 137, 3, 137, 0, 0) :: (36, .checkcast 28, 3, 5, 0, 0) :: (39, .invokevirtual 96, 3, 20, 0, 0) :: (42, .iinc 2 1, 3, 1, 0, 0) :: (45, .goto (-35), 3, 10, 0, 0) :: k_X5_finishWaiting_48
def k_X5_finishWaiting_10 : List Ent := (10, .iload_n 2, 1, 0, 0, 0) :: (11, .iload_n 1, 1, 0, 0, 0) :: (12, .if_icmp .ge 36, 3, 48, 0, 0) :: (15, .aload_n 0, 1, 0, 0, 0) :: (16, .invokevirtual 134, 3, 18, 0, 0) :: (19, .istore_n 3, 1, 0, 0, 0) :: (20, .iload_n 3, 1, 0, 0, 0) :: (21, .iconst (-1), 1, 1, 1, 0) :: (22, .if_icmp .ne 5, 3, 27, 0, 0) :: (25, .iload_n 2, 1, 0, 0, 0) :: (26, .ireturn, 1, 0, 0, 0) :: k_X5_finishWaiting_27
def k_X5_finishWaiting_0 : List Ent := (0, .aload_n 0, 1, 0, 0, 0) :: (1, .getfield 43, 3, 6, 167, 1) :: (4, .invokevirtual 69, 3, 131, 0, 0) :: (7, .istore_n 1, 1, 0, 0, 0) :: (8, .iconst 0, 1, 0, 0, 0) :: (9, .istore_n 2, 1, 0, 0, 0) :: k_X5_finishWaiting_10
def M_X5_finishWaiting : MI := (yX5_finishWaiting, cX5_finishWaiting, 4, (some .int), 9, 203, 5, 1, 7, k_X5_finishWaiting_0)
theorem sk_X5_finishWaiting_10 : sm_seek (mP M_X5_finishWaiting) 10 = k_X5_finishWaiting_10 := rfl
theorem sk_X5_finishWaiting_27 : sm_seek (mP M_X5_finishWaiting) 27 = k_X5_finishWaiting_27 := rfl
theorem sk_X5_finishWaiting_48 : sm_seek (mP M_X5_finishWaiting) 48 = k_X5_finishWaiting_48 := rfl
def k_X5_firstReady_39 : List Ent := (39, .iconst (-1), 1, 1, 1, 0) :: (40, .ireturn, 1, 0, 0, 0) :: []
def k_X5_firstReady_33 : List Ent := (33, .iinc 1 1, 3, 1, 0, 0) :: (36, .goto (-34), 3, 2, 0, 0) :: k_X5_firstReady_39
def k_X5_firstReady_2 : List Ent := (2, .iload_n 1, 1, 0, 0, 0) :: (3, .aload_n 0, 1, 0, 0, 0) :: (4, .getfield 43, 3, 6, 167, 1) :: (7, .invokevirtual 69, 3, 131, 0, 0) :: (10, .if_icmp .ge 29, 3, 39, 0, 0) :: (13, .aload_n 0, 1, 0, 0, 0) :: (14, .aload_n 0, 1, 0, 0, 0) :: (15, .getfield 43, 3, 6, 167, 1) :: (18, .iload_n 1, 1, 0, 0, 0) :: (19, .invokevirtual 73, 3, 134, 0, 0) :: (22, .checkcast 28, 3, 5, 0, 0) :: (25, .invokevirtual 140, 3, 19, 0, 0) :: (28, .ifCond .eq 5, 3, 33, 0, 0) :: (31, .iload_n 1, 1, 0, 0, 0) :: (32, .ireturn, 1, 0, 0, 0) :: k_X5_firstReady_33
def k_X5_firstReady_0 : List Ent := (0, .iconst 0, 1, 0, 0, 0) :: (1, .istore_n 1, 1, 0, 0, 0) :: k_X5_firstReady_2
def M_X5_firstReady : MI := (yX5_firstReady, cX5_firstReady, 2, (some .int), 4, 92, 5, 1, 7, k_X5_firstReady_0)
theorem sk_X5_firstReady_2 : sm_seek (mP M_X5_firstReady) 2 = k_X5_firstReady_2 := rfl
theorem sk_X5_firstReady_33 : sm_seek (mP M_X5_firstReady) 33 = k_X5_firstReady_33 := rfl
theorem sk_X5_firstReady_39 : sm_seek (mP M_X5_firstReady) 39 = k_X5_firstReady_39 := rfl
def k_X5_isReady_66 : List Ent := (66, .iconst 1, 1, 1, 0, 0) :: (67, .ireturn, 1, 0, 0, 0) :: []
def k_X5_isReady_60 : List Ent := (60, .iinc 2 1, 3, 1, 0, 0) :: (63, .goto (-61), 3, 2, 0, 0) :: k_X5_isReady_66
def k_X5_isReady_58 : List Ent := (58, .iconst 0, 1, 0, 0, 0) :: (59, .ireturn, 1, 0, 0, 0) :: k_X5_isReady_60
def k_X5_isReady_52 : List Ent := (52, .iload 4, 2, 0, 0, 0) :: (54, .iload_n 3, 1, 0, 0, 0) :: (55, .if_icmp .le 5, 3, 60, 0, 0) :: k_X5_isReady_58
def k_X5_isReady_2 : List Ent := (2, .iload_n 2, 1, 0, 0, 0) :: (3, .iconst 4, 1, 4, 0, 0) :: (4, .if_icmp .ge 62, 3, 66, 0, 0) :: (7, .aload_n 0, 1, 0, 0, 0) :: (8, .getfield 11, 3, 6, 161, 1) :: (11, .aload_n 0, 1, 0, 0, 0) :: (12, .getfield 54, 3, 6, 160, 0) :: (15, .aaload, 1, 0, 0, 0) :: (16, .getfield 61, 3, 2, 32, 1) :: (19, .iload_n 2, 1, 0, 0, 0) :: (20, .iaload, 1, 0, 0, 0) :: (21, .istore_n 3, 1, 0, 0, 0) :: (22, .aload_n 1, 1, 0, 0, 0) :: (23, .getfield 143, 3, 5, 132, 1) :: (26, .getfield 61, 3, 2, 32, 1) :: (29, .iload_n 2, 1, 0, 0, 0) :: (30, .iaload, 1, 0, 0, 0) :: (31, .istore 4, 2, 0, 0, 0) :: (33, .iload_n 2, 1, 0, 0, 0) :: (34, .aload_n 1, 1, 0, 0, 0) :: (35, .getfield 144, 3, 5, 129, 0) :: (38, .if_icmp .ne 14, 3, 52, 0, 0) :: (41, .iload 4, 2, 0, 0, 0) :: (43, .iload_n 3, 1, 0, 0, 0) :: (44, .iconst 1, 1, 1, 0, 0) :: (45, .iadd, 1, 0, 0, 0) :: (46, .if_icmp .eq 14, 3, 60, 0, 0) :: (49, .goto 9, 3, 58, 0, 0) :: k_X5_isReady_52
def k_X5_isReady_0 : List Ent := (0, .iconst 0, 1, 0, 0, 0) :: (1, .istore_n 2, 1, 0, 0, 0) :: k_X5_isReady_2
def M_X5_isReady : MI := (yX5_isReady, cX5_isReady, 5, (some .boolean), 0, 0, 5, 2, 7, k_X5_isReady_0)
theorem sk_X5_isReady_2 : sm_seek (mP M_X5_isReady) 2 = k_X5_isReady_2 := rfl
theorem sk_X5_isReady_52 : sm_seek (mP M_X5_isReady) 52 = k_X5_isReady_52 := rfl
theorem sk_X5_isReady_58 : sm_seek (mP M_X5_isReady) 58 = k_X5_isReady_58 := rfl
theorem sk_X5_isReady_60 : sm_seek (mP M_X5_isReady) 60 = k_X5_isReady_60 := rfl
theorem sk_X5_isReady_66 : sm_seek (mP M_X5_isReady) 66 = k_X5_isReady_66 := rfl
def k_X5_finish_58 : List Ent := (58, .return_, 1, 0, 0, 0) :: []
def k_X5_finish_0 : List Ent := (0, .aload_n 0, 1, 0, 0, 0) :: (1, .getfield 11, 3, 6, 161, 1) :: (4, .aload_n 0, 1, 0, 0, 0) :: (5, .getfield 54, 3, 6, 160, 0) :: (8, .aaload, 1, 0, 0, 0) :: (9, .getfield 61, 3, 2, 32, 1) :: (12, .aload_n 1, 1, 0, 0, 0) :: (13, .getfield 144, 3, 5, 129, 0) :: (16, .aload_n 1, 1, 0, 0, 0) :: (17, .getfield 147, 3, 5, 130, 0) :: (20, .iastore, 1, 0, 0, 0) :: (21, .aload_n 0, 1, 0, 0, 0) :: (22, .aload_n 0, 1, 0, 0, 0) :: (23, .getfield 46, 3, 6, 168, 0) :: (26, .aload_n 1, 1, 0, 0, 0) :: (27, .getfield 150, 3, 5, 131, 0) :: (30, .invokestatic 151, 3, 1004, 0, 2) :: (33, .putfield 46, 3, 6, 168, 0) :: (36, .aload_n 0, 1, 0, 0, 0) :: (37, .aload_n 1, 1, 0, 0, 0) :: (38, .invokevirtual 157, 3, 21, 0, 0) :: (41, .aload_n 0, 1, 0, 0, 0) :: (42, .aload_n 1, 1, 0, 0, 0) :: (43, .invokevirtual 160, 3, 24, 0, 0) :: (46, .ifCond .ne 12, 3, 58, 0, 0) :: (49, .aload_n 0, 1, 0, 0, 0) :: (50, .getfield 40, 3, 6, 166, 1) :: (53, .aload_n 1, 1, 0, 0, 0) :: (54, .invokevirtual 127, 3, 136, 0, 0) :: (57, .pop, 1, 0, 0, 0) :: k_X5_finish_58
def M_X5_finish : MI := (yX5_finish, cX5_finish, 2, none, 8, 182, 5, 2, 7, k_X5_finish_0)
theorem sk_X5_finish_58 : sm_seek (mP M_X5_finish) 58 = k_X5_finish_58 := rfl
def k_X5_apply_120 : List Ent := (120, .return_, 1, 0, 0, 0) :: []
def k_X5_apply_107 : List Ent := (107, .aload_n 0, 1, 0, 0, 0) :: (108, .getfield 36, 3, 6, 165, 1) :: (111, .aload_n 2, 1, 0, 0, 0) :: (112, .getfield 81, 3, 1, 1, 0) :: (115, .aaload, 1, 0, 0, 0) :: (116, .aload_n 1, 1, 0, 0, 0) :: (117, .invokevirtual 175, 3, 31, 0, 0) :: k_X5_apply_120
def k_X5_apply_91 : List Ent := (91, .aload_n 0, 1, 0, 0, 0) :: (92, .getfield 36, 3, 6, 165, 1) :: (95, .aload_n 2, 1, 0, 0, 0) :: (96, .getfield 81, 3, 1, 1, 0) :: (99, .aaload, 1, 0, 0, 0) :: (100, .aload_n 1, 1, 0, 0, 0) :: (101, .invokevirtual 172, 3, 30, 0, 0) :: (104, .goto 16, 3, 120, 0, 0) :: k_X5_apply_107
def k_X5_apply_83 : List Ent := (83, .aload_n 0, 1, 0, 0, 0) :: (84, .aload_n 1, 1, 0, 0, 0) :: (85, .invokevirtual 169, 3, 23, 0, 0) :: (88, .goto 32, 3, 120, 0, 0) :: k_X5_apply_91
def k_X5_apply_75 : List Ent := (75, .aload_n 0, 1, 0, 0, 0) :: (76, .aload_n 1, 1, 0, 0, 0) :: (77, .invokevirtual 166, 3, 22, 0, 0) :: (80, .goto 40, 3, 120, 0, 0) :: k_X5_apply_83
def k_X5_apply_63 : List Ent := (63, .aload_n 0, 1, 0, 0, 0) :: (64, .getfield 24, 3, 6, 163, 1) :: (67, .aload_n 1, 1, 0, 0, 0) :: (68, .invokevirtual 127, 3, 136, 0, 0) :: (71, .pop, 1, 0, 0, 0) :: (72, .goto 48, 3, 120, 0, 0) :: k_X5_apply_75
def k_X5_apply_44 : List Ent := (44, .aload_n 0, 1, 0, 0, 0) :: (45, .getfield 17, 3, 6, 162, 1) :: (48, .aload_n 2, 1, 0, 0, 0) :: (49, .getfield 81, 3, 1, 1, 0) :: (52, .dup2, 1, 0, 0, 0) :: (53, .iaload, 1, 0, 0, 0) :: (54, .aload_n 2, 1, 0, 0, 0) :: (55, .getfield 86, 3, 1, 2, 0) :: (58, .iadd, 1, 0, 0, 0) :: (59, .iastore, 1, 0, 0, 0) :: (60, .goto 60, 3, 120, 0, 0) :: k_X5_apply_63
def k_X5_apply_0 : List Ent := (0, .aload_n 1, 1, 0, 0, 0) :: (1, .getfield 77, 3, 5, 128, 1) :: (4, .astore_n 2, 1, 0, 0, 0) :: (5, .aload_n 2, 1, 0, 0, 0) :: (6, .getfield 163, 3, 1, 0, 0) :: (9, .tableswitch 98 0 4 #[35, 54, 66, 74, 82], 35, 0, 0, 0) :: k_X5_apply_44
def M_X5_apply : MI := (yX5_apply, cX5_apply, 3, none, 7, 160, 5, 2, 7, k_X5_apply_0)
theorem sk_X5_apply_44 : sm_seek (mP M_X5_apply) 44 = k_X5_apply_44 := rfl
theorem sk_X5_apply_63 : sm_seek (mP M_X5_apply) 63 = k_X5_apply_63 := rfl
theorem sk_X5_apply_75 : sm_seek (mP M_X5_apply) 75 = k_X5_apply_75 := rfl
theorem sk_X5_apply_83 : sm_seek (mP M_X5_apply) 83 = k_X5_apply_83 := rfl
theorem sk_X5_apply_91 : sm_seek (mP M_X5_apply) 91 = k_X5_apply_91 := rfl
theorem sk_X5_apply_107 : sm_seek (mP M_X5_apply) 107 = k_X5_apply_107 := rfl
theorem sk_X5_apply_120 : sm_seek (mP M_X5_apply) 120 = k_X5_apply_120 := rfl
def k_X5_dropPutsBefore_60 : List Ent := (60, .return_, 1, 0, 0, 0) :: []
def k_X5_dropPutsBefore_54 : List Ent := (54, .iinc 2 (-1), 3, 1, 1, 0) :: (57, .goto (-47), 3, 10, 0, 0) :: k_X5_dropPutsBefore_60
def k_X5_dropPutsBefore_10 : List Ent := (10, .iload_n 2, 1, 0, 0, 0) :: (11, .ifCond .lt 49, 3, 60, 0, 0) :: (14, .aload_n 0, 1, 0, 0, 0) :: (15, .getfield 24, 3, 6, 163, 1) :: (18, .iload_n 2, 1, 0, 0, 0) :: (19, .invokevirtual 73, 3, 134, 0, 0) :: (22, .checkcast 28, 3, 5, 0, 0) :: (25, .astore_n 3, 1, 0, 0, 0) :: (26, .aload_n 3, 1, 0, 0, 0) :: (27, .aload_n 1, 1, 0, 0, 0) :: (28, .invokevirtual 178, 3, 9, 0, 0) :: (31, .ifCond .eq 23, 3, 54, 0, 0) :: (34, .aload_n 1, 1, 0, 0, 0) :: (35, .getfield 143, 3, 5, 132, 1) :: (38, .aload_n 3, 1, 0, 0, 0) :: (39, .invokevirtual 120, 3, 2, 0, 0) :: (42, .ifCond .eq 12, 3, 54, 0, 0) :: (45, .aload_n 0, 1, 0, 0, 0) :: (46, .getfield 24, 3, 6, 163, 1) :: (49, .iload_n 2, 1, 0, 0, 0) :: (50, .invokevirtual 137, 3, 137, 0, 0) :: (53, .pop, 1, 0, 0, 0) :: k_X5_dropPutsBefore_54
def k_X5_dropPutsBefore_0 : List Ent := (0, .aload_n 0, 1, 0, 0, 0) :: (1, .getfield 24, 3, 6, 163, 1) :: (4, .invokevirtual 69, 3, 131, 0, 0) :: (7, .iconst 1, 1, 1, 0, 0) :: (8, .isub, 1, 0, 0, 0) :: (9, .istore_n 2, 1, 0, 0, 0) :: k_X5_dropPutsBefore_10
def M_X5_dropPutsBefore : MI := (yX5_dropPutsBefore, cX5_dropPutsBefore, 4, none, 4, 94, 5, 2, 7, k_X5_dropPutsBefore_0)
theorem sk_X5_dropPutsBefore_10 : sm_seek (mP M_X5_dropPutsBefore) 10 = k_X5_dropPutsBefore_10 := rfl
theorem sk_X5_dropPutsBefore_54 : sm_seek (mP M_X5_dropPutsBefore) 54 = k_X5_dropPutsBefore_54 := rfl
theorem sk_X5_dropPutsBefore_60 : sm_seek (mP M_X5_dropPutsBefore) 60 = k_X5_dropPutsBefore_60 := rfl
def k_X5_keepGreaterMark_37 : List Ent := (37, .return_, 1, 0, 0, 0) :: []
def k_X5_keepGreaterMark_30 : List Ent := (30, .aload_n 0, 1, 0, 0, 0) :: (31, .getfield 30, 3, 6, 164, 1) :: (34, .iload_n 2, 1, 0, 0, 0) :: (35, .aload_n 1, 1, 0, 0, 0) :: (36, .aastore, 1, 0, 0, 0) :: k_X5_keepGreaterMark_37
def k_X5_keepGreaterMark_0 : List Ent := (0, .aload_n 1, 1, 0, 0, 0) :: (1, .getfield 77, 3, 5, 128, 1) :: (4, .getfield 81, 3, 1, 1, 0) :: (7, .istore_n 2, 1, 0, 0, 0) :: (8, .aload_n 0, 1, 0, 0, 0) :: (9, .getfield 30, 3, 6, 164, 1) :: (12, .iload_n 2, 1, 0, 0, 0) :: (13, .aaload, 1, 0, 0, 0) :: (14, .ifnull 16, 3, 30, 0, 0) :: (17, .aload_n 1, 1, 0, 0, 0) :: (18, .aload_n 0, 1, 0, 0, 0) :: (19, .getfield 30, 3, 6, 164, 1) :: (22, .iload_n 2, 1, 0, 0, 0) :: (23, .aaload, 1, 0, 0, 0) :: (24, .invokevirtual 181, 3, 8, 0, 0) :: (27, .ifCond .eq 10, 3, 37, 0, 0) :: k_X5_keepGreaterMark_30
def M_X5_keepGreaterMark : MI := (yX5_keepGreaterMark, cX5_keepGreaterMark, 3, none, 1, 21, 5, 2, 7, k_X5_keepGreaterMark_0)
theorem sk_X5_keepGreaterMark_30 : sm_seek (mP M_X5_keepGreaterMark) 30 = k_X5_keepGreaterMark_30 := rfl
theorem sk_X5_keepGreaterMark_37 : sm_seek (mP M_X5_keepGreaterMark) 37 = k_X5_keepGreaterMark_37 := rfl
def k_X5_isDoneEverywhere_28 : List Ent := (28, .iconst 1, 1, 1, 0, 0) :: (29, .ireturn, 1, 0, 0, 0) :: []
def k_X5_isDoneEverywhere_22 : List Ent := (22, .iinc 2 1, 3, 1, 0, 0) :: (25, .goto (-23), 3, 2, 0, 0) :: k_X5_isDoneEverywhere_28
def k_X5_isDoneEverywhere_2 : List Ent := (2, .iload_n 2, 1, 0, 0, 0) :: (3, .iconst 4, 1, 4, 0, 0) :: (4, .if_icmp .ge 24, 3, 28, 0, 0) :: (7, .aload_n 0, 1, 0, 0, 0) :: (8, .getfield 11, 3, 6, 161, 1) :: (11, .iload_n 2, 1, 0, 0, 0) :: (12, .aaload, 1, 0, 0, 0) :: (13, .aload_n 1, 1, 0, 0, 0) :: (14, .invokevirtual 120, 3, 2, 0, 0) :: (17, .ifCond .ne 5, 3, 22, 0, 0) :: (20, .iconst 0, 1, 0, 0, 0) :: (21, .ireturn, 1, 0, 0, 0) :: k_X5_isDoneEverywhere_22
def k_X5_isDoneEverywhere_0 : List Ent := (0, .iconst 0, 1, 0, 0, 0) :: (1, .istore_n 2, 1, 0, 0, 0) :: k_X5_isDoneEverywhere_2
def M_X5_isDoneEverywhere : MI := (yX5_isDoneEverywhere, cX5_isDoneEverywhere, 3, (some .boolean), 1, 21, 5, 2, 7, k_X5_isDoneEverywhere_0)
theorem sk_X5_isDoneEverywhere_2 : sm_seek (mP M_X5_isDoneEverywhere) 2 = k_X5_isDoneEverywhere_2 := rfl
theorem sk_X5_isDoneEverywhere_22 : sm_seek (mP M_X5_isDoneEverywhere) 22 = k_X5_isDoneEverywhere_22 := rfl
theorem sk_X5_isDoneEverywhere_28 : sm_seek (mP M_X5_isDoneEverywhere) 28 = k_X5_isDoneEverywhere_28 := rfl
def k_X5_shortenLog_47 : List Ent := (47, .return_, 1, 0, 0, 0) :: []
def k_X5_shortenLog_41 : List Ent := (41, .iinc 1 (-1), 3, 1, 1, 0) :: (44, .goto (-34), 3, 10, 0, 0) :: k_X5_shortenLog_47
def k_X5_shortenLog_10 : List Ent := (10, .iload_n 1, 1, 0, 0, 0) :: (11, .ifCond .lt 36, 3, 47, 0, 0) :: (14, .aload_n 0, 1, 0, 0, 0) :: (15, .aload_n 0, 1, 0, 0, 0) :: (16, .getfield 40, 3, 6, 166, 1) :: (19, .iload_n 1, 1, 0, 0, 0) :: (20, .invokevirtual 73, 3, 134, 0, 0) :: (23, .checkcast 28, 3, 5, 0, 0) :: (26, .invokevirtual 160, 3, 24, 0, 0) :: (29, .ifCond .eq 12, 3, 41, 0, 0) :: (32, .aload_n 0, 1, 0, 0, 0) :: (33, .getfield 40, 3, 6, 166, 1) :: (36, .iload_n 1, 1, 0, 0, 0) :: (37, .invokevirtual 137, 3, 137, 0, 0) :: (40, .pop, 1, 0, 0, 0) :: k_X5_shortenLog_41
def k_X5_shortenLog_0 : List Ent := (0, .aload_n 0, 1, 0, 0, 0) :: (1, .getfield 40, 3, 6, 166, 1) :: (4, .invokevirtual 69, 3, 131, 0, 0) :: (7, .iconst 1, 1, 1, 0, 0) :: (8, .isub, 1, 0, 0, 0) :: (9, .istore_n 1, 1, 0, 0, 0) :: k_X5_shortenLog_10
def M_X5_shortenLog : MI := (yX5_shortenLog, cX5_shortenLog, 2, none, 4, 94, 5, 1, 7, k_X5_shortenLog_0)
theorem sk_X5_shortenLog_10 : sm_seek (mP M_X5_shortenLog) 10 = k_X5_shortenLog_10 := rfl
theorem sk_X5_shortenLog_41 : sm_seek (mP M_X5_shortenLog) 41 = k_X5_shortenLog_41 := rfl
theorem sk_X5_shortenLog_47 : sm_seek (mP M_X5_shortenLog) 47 = k_X5_shortenLog_47 := rfl
def k_X6_init_0 : List Ent := (0, .aload_n 0, 1, 0, 0, 0) :: (1, .invokespecial 1, 3, 1000, 0, 1) :: (4, .aload_n 0, 1, 0, 0, 0) :: (5, .new 7, 3, 3, 3, 0) :: (8, .dup, 1, 0, 0, 0) :: (9, .aconst_null, 1, 0, 0, 0) :: (10, .invokespecial 9, 3, 4, 0, 1) :: (13, .putfield 12, 3, 7, 192, 1) :: (16, .return_, 1, 0, 0, 0) :: []
def M_X6_init : MI := (yX6_init, cX6_init, 1, none, 2, 49, 6, 1, 1, k_X6_init_0)
def k_X6_lettersEver_25 : List Ent := (25, .iload_n 1, 1, 0, 0, 0) :: (26, .ireturn, 1, 0, 0, 0) :: []
def k_X6_lettersEver_10 : List Ent := (10, .aload_n 2, 1, 0, 0, 0) :: (11, .ifnull 14, 3, 25, 0, 0) :: (14, .iinc 1 1, 3, 1, 0, 0) :: (17, .aload_n 2, 1, 0, 0, 0) :: (18, .getfield 18, 3, 3, 66, 1) :: (21, .astore_n 2, 1, 0, 0, 0) :: (22, .goto (-12), 3, 10, 0, 0) :: k_X6_lettersEver_25
def k_X6_lettersEver_0 : List Ent := (0, .iconst 0, 1, 0, 0, 0) :: (1, .istore_n 1, 1, 0, 0, 0) :: (2, .aload_n 0, 1, 0, 0, 0) :: (3, .getfield 12, 3, 7, 192, 1) :: (6, .getfield 18, 3, 3, 66, 1) :: (9, .astore_n 2, 1, 0, 0, 0) :: k_X6_lettersEver_10
def M_X6_lettersEver : MI := (yX6_lettersEver, cX6_lettersEver, 3, (some .int), 0, 0, 6, 1, 8, k_X6_lettersEver_0)
theorem sk_X6_lettersEver_10 : sm_seek (mP M_X6_lettersEver) 10 = k_X6_lettersEver_10 := rfl
theorem sk_X6_lettersEver_25 : sm_seek (mP M_X6_lettersEver) 25 = k_X6_lettersEver_25 := rfl
def k_X6_lettersThere_32 : List Ent := (32, .iload_n 1, 1, 0, 0, 0) :: (33, .ireturn, 1, 0, 0, 0) :: []
def k_X6_lettersThere_24 : List Ent := (24, .aload_n 2, 1, 0, 0, 0) :: (25, .getfield 18, 3, 3, 66, 1) :: (28, .astore_n 2, 1, 0, 0, 0) :: (29, .goto (-19), 3, 10, 0, 0) :: k_X6_lettersThere_32
def k_X6_lettersThere_10 : List Ent := (10, .aload_n 2, 1, 0, 0, 0) :: (11, .ifnull 21, 3, 32, 0, 0) :: (14, .aload_n 2, 1, 0, 0, 0) :: (15, .getfield 21, 3, 3, 65, 2) :: (18, .ifCond .ne 6, 3, 24, 0, 0) :: (21, .iinc 1 1, 3, 1, 0, 0) :: k_X6_lettersThere_24
def k_X6_lettersThere_0 : List Ent := (0, .iconst 0, 1, 0, 0, 0) :: (1, .istore_n 1, 1, 0, 0, 0) :: (2, .aload_n 0, 1, 0, 0, 0) :: (3, .getfield 12, 3, 7, 192, 1) :: (6, .getfield 18, 3, 3, 66, 1) :: (9, .astore_n 2, 1, 0, 0, 0) :: k_X6_lettersThere_10
def M_X6_lettersThere : MI := (yX6_lettersThere, cX6_lettersThere, 3, (some .int), 0, 0, 6, 1, 8, k_X6_lettersThere_0)
theorem sk_X6_lettersThere_10 : sm_seek (mP M_X6_lettersThere) 10 = k_X6_lettersThere_10 := rfl
theorem sk_X6_lettersThere_24 : sm_seek (mP M_X6_lettersThere) 24 = k_X6_lettersThere_24 := rfl
theorem sk_X6_lettersThere_32 : sm_seek (mP M_X6_lettersThere) 32 = k_X6_lettersThere_32 := rfl
def k_X6_letterAt_39 : List Ent := (39, .aconst_null, 1, 0, 0, 0) :: (40, .areturn, 1, 0, 0, 0) :: []
def k_X6_letterAt_31 : List Ent := (31, .aload_n 3, 1, 0, 0, 0) :: (32, .getfield 18, 3, 3, 66, 1) :: (35, .astore_n 3, 1, 0, 0, 0) :: (36, .goto (-26), 3, 10, 0, 0) :: k_X6_letterAt_39
def k_X6_letterAt_28 : List Ent := (28, .iinc 2 1, 3, 1, 0, 0) :: k_X6_letterAt_31
def k_X6_letterAt_10 : List Ent := (10, .aload_n 3, 1, 0, 0, 0) :: (11, .ifnull 28, 3, 39, 0, 0) :: (14, .aload_n 3, 1, 0, 0, 0) :: (15, .getfield 21, 3, 3, 65, 2) :: (18, .ifCond .ne 13, 3, 31, 0, 0) :: (21, .iload_n 2, 1, 0, 0, 0) :: (22, .iload_n 1, 1, 0, 0, 0) :: (23, .if_icmp .ne 5, 3, 28, 0, 0) :: (26, .aload_n 3, 1, 0, 0, 0) :: (27, .areturn, 1, 0, 0, 0) :: k_X6_letterAt_28
def k_X6_letterAt_0 : List Ent := (0, .iconst 0, 1, 0, 0, 0) :: (1, .istore_n 2, 1, 0, 0, 0) :: (2, .aload_n 0, 1, 0, 0, 0) :: (3, .getfield 12, 3, 7, 192, 1) :: (6, .getfield 18, 3, 3, 66, 1) :: (9, .astore_n 3, 1, 0, 0, 0) :: k_X6_letterAt_10
def M_X6_letterAt : MI := (yX6_letterAt, cX6_letterAt, 4, (some (.object "ReplicaStore$Letter")), 0, 0, 6, 2, 8, k_X6_letterAt_0)
theorem sk_X6_letterAt_10 : sm_seek (mP M_X6_letterAt) 10 = k_X6_letterAt_10 := rfl
theorem sk_X6_letterAt_28 : sm_seek (mP M_X6_letterAt) 28 = k_X6_letterAt_28 := rfl
theorem sk_X6_letterAt_31 : sm_seek (mP M_X6_letterAt) 31 = k_X6_letterAt_31 := rfl
theorem sk_X6_letterAt_39 : sm_seek (mP M_X6_letterAt) 39 = k_X6_letterAt_39 := rfl
def k_X6_bringIn_46 : List Ent := (46, .new 7, 3, 3, 3, 0) :: (49, .dup, 1, 0, 0, 0) :: (50, .aload_n 1, 1, 0, 0, 0) :: (51, .invokespecial 9, 3, 4, 0, 1) :: (54, .astore_n 3, 1, 0, 0, 0) :: (55, .aload_n 3, 1, 0, 0, 0) :: (56, .aload_n 2, 1, 0, 0, 0) :: (57, .getfield 18, 3, 3, 66, 1) :: (60, .putfield 18, 3, 3, 66, 1) :: (63, .aload_n 2, 1, 0, 0, 0) :: (64, .aload_n 3, 1, 0, 0, 0) :: (65, .putfield 18, 3, 3, 66, 1) :: (68, .return_, 1, 0, 0, 0) :: []
def k_X6_bringIn_17 : List Ent := (17, .aload_n 2, 1, 0, 0, 0) :: (18, .getfield 18, 3, 3, 66, 1) :: (21, .ifnull 25, 3, 46, 0, 0) :: (24, .aload_n 2, 1, 0, 0, 0) :: (25, .getfield 18, 3, 3, 66, 1) :: (28, .getfield 41, 3, 3, 64, 1) :: (31, .aload_n 1, 1, 0, 0, 0) :: (32, .invokevirtual 44, 3, 8, 0, 0) :: (35, .ifCond .eq 11, 3, 46, 0, 0) :: (38, .aload_n 2, 1, 0, 0, 0) :: (39, .getfield 18, 3, 3, 66, 1) :: (42, .astore_n 2, 1, 0, 0, 0) :: (43, .goto (-26), 3, 17, 0, 0) :: k_X6_bringIn_46
def k_X6_bringIn_0 : List Ent := (0, .aload_n 0, 1, 0, 0, 0) :: (1, .aload_n 1, 1, 0, 0, 0) :: (2, .getfield 25, 3, 5, 128, 1) :: (5, .getfield 31, 3, 1, 3, 1) :: (8, .invokevirtual 37, 3, 32, 0, 0) :: (11, .astore_n 2, 1, 0, 0, 0) :: (12, .aload_n 2, 1, 0, 0, 0) :: (13, .ifnonnull 4, 3, 17, 0, 0) :: (16, .return_, 1, 0, 0, 0) :: k_X6_bringIn_17
def M_X6_bringIn : MI := (yX6_bringIn, cX6_bringIn, 4, none, 2, 49, 6, 2, 8, k_X6_bringIn_0)
theorem sk_X6_bringIn_17 : sm_seek (mP M_X6_bringIn) 17 = k_X6_bringIn_17 := rfl
theorem sk_X6_bringIn_46 : sm_seek (mP M_X6_bringIn) 46 = k_X6_bringIn_46 := rfl
def k_X6_bringOut_21 : List Ent := (21, .return_, 1, 0, 0, 0) :: []
def k_X6_bringOut_0 : List Ent := (0, .aload_n 0, 1, 0, 0, 0) :: (1, .aload_n 1, 1, 0, 0, 0) :: (2, .getfield 25, 3, 5, 128, 1) :: (5, .getfield 31, 3, 1, 3, 1) :: (8, .invokevirtual 37, 3, 32, 0, 0) :: (11, .astore_n 2, 1, 0, 0, 0) :: (12, .aload_n 2, 1, 0, 0, 0) :: (13, .ifnull 8, 3, 21, 0, 0) :: (16, .aload_n 2, 1, 0, 0, 0) :: (17, .iconst 1, 1, 1, 0, 0) :: (18, .putfield 21, 3, 3, 65, 2) :: k_X6_bringOut_21
def M_X6_bringOut : MI := (yX6_bringOut, cX6_bringOut, 3, none, 1, 22, 6, 2, 8, k_X6_bringOut_0)
theorem sk_X6_bringOut_21 : sm_seek (mP M_X6_bringOut) 21 = k_X6_bringOut_21 := rfl
def k_X6_letterOf_27 : List Ent := (27, .aconst_null, 1, 0, 0, 0) :: (28, .areturn, 1, 0, 0, 0) :: []
def k_X6_letterOf_19 : List Ent := (19, .aload_n 2, 1, 0, 0, 0) :: (20, .getfield 18, 3, 3, 66, 1) :: (23, .astore_n 2, 1, 0, 0, 0) :: (24, .goto (-19), 3, 5, 0, 0) :: k_X6_letterOf_27
def k_X6_letterOf_5 : List Ent := (5, .aload_n 2, 1, 0, 0, 0) :: (6, .ifnull 21, 3, 27, 0, 0) :: (9, .aload_n 2, 1, 0, 0, 0) :: (10, .getfield 41, 3, 3, 64, 1) :: (13, .aload_n 1, 1, 0, 0, 0) :: (14, .if_acmp .ne 5, 3, 19, 0, 0) :: (17, .aload_n 2, 1, 0, 0, 0) :: (18, .areturn, 1, 0, 0, 0) :: k_X6_letterOf_19
def k_X6_letterOf_0 : List Ent := (0, .aload_n 0, 1, 0, 0, 0) :: (1, .getfield 12, 3, 7, 192, 1) :: (4, .astore_n 2, 1, 0, 0, 0) :: k_X6_letterOf_5
def M_X6_letterOf : MI := (yX6_letterOf, cX6_letterOf, 3, (some (.object "ReplicaStore$Letter")), 0, 0, 6, 2, 8, k_X6_letterOf_0)
theorem sk_X6_letterOf_5 : sm_seek (mP M_X6_letterOf) 5 = k_X6_letterOf_5 := rfl
theorem sk_X6_letterOf_19 : sm_seek (mP M_X6_letterOf) 19 = k_X6_letterOf_19 := rfl
theorem sk_X6_letterOf_27 : sm_seek (mP M_X6_letterOf) 27 = k_X6_letterOf_27 := rfl
def k_X7_init_0 : List Ent := (0, .aload_n 0, 1, 0, 0, 0) :: (1, .invokespecial 3, 3, 1000, 0, 1) :: (4, .aload_n 0, 1, 0, 0, 0) :: (5, .new 9, 3, 11, 3, 0) :: (8, .dup, 1, 0, 0, 0) :: (9, .invokespecial 11, 3, 128, 0, 1) :: (12, .putfield 12, 3, 8, 224, 1) :: (15, .return_, 1, 0, 0, 0) :: []
def M_X7_init : MI := (yX7_init, cX7_init, 1, none, 4, 88, 7, 1, 1, k_X7_init_0)
def k_X7_isFull_17 : List Ent := (17, .ireturn, 1, 0, 0, 0) :: []
def k_X7_isFull_16 : List Ent := (16, .iconst 0, 1, 0, 0, 0) :: k_X7_isFull_17
def k_X7_isFull_0 : List Ent := (0, .aload_n 0, 1, 0, 0, 0) :: (1, .getfield 12, 3, 8, 224, 1) :: (4, .invokevirtual 18, 3, 131, 0, 0) :: (7, .bipush 30, 2, 30, 0, 0) :: (9, .if_icmp .lt 7, 3, 16, 0, 0) :: (12, .iconst 1, 1, 1, 0, 0) :: (13, .goto 4, 3, 17, 0, 0) :: k_X7_isFull_16
def M_X7_isFull : MI := (yX7_isFull, cX7_isFull, 1, (some .boolean), 1, 20, 7, 1, 9, k_X7_isFull_0)
theorem sk_X7_isFull_16 : sm_seek (mP M_X7_isFull) 16 = k_X7_isFull_16 := rfl
theorem sk_X7_isFull_17 : sm_seek (mP M_X7_isFull) 17 = k_X7_isFull_17 := rfl
def k_X7_send_16 : List Ent := (16, .return_, 1, 0, 0, 0) :: []
def k_X7_send_0 : List Ent := (0, .aload_n 0, 1, 0, 0, 0) :: (1, .invokevirtual 22, 3, 34, 0, 0) :: (4, .ifCond .ne 12, 3, 16, 0, 0) :: (7, .aload_n 0, 1, 0, 0, 0) :: (8, .getfield 12, 3, 8, 224, 1) :: (11, .aload_n 1, 1, 0, 0, 0) :: (12, .invokevirtual 26, 3, 136, 0, 0) :: (15, .pop, 1, 0, 0, 0) :: k_X7_send_16
def M_X7_send : MI := (yX7_send, cX7_send, 2, none, 7, 160, 7, 2, 9, k_X7_send_0)
theorem sk_X7_send_16 : sm_seek (mP M_X7_send) 16 = k_X7_send_16 := rfl
def k_X8_init_82 : List Ent := (82, .return_, 1, 0, 0, 0) :: []
def k_X8_init_54 : List Ent := (54, .iload_n 1, 1, 0, 0, 0) :: (55, .aload_n 0, 1, 0, 0, 0) :: (56, .getfield 17, 3, 9, 257, 1) :: (59, .arraylength, 1, 0, 0, 0) :: (60, .if_icmp .ge 22, 3, 82, 0, 0) :: (63, .aload_n 0, 1, 0, 0, 0) :: (64, .getfield 17, 3, 9, 257, 1) :: (67, .iload_n 1, 1, 0, 0, 0) :: (68, .new 15, 3, 8, 1, 0) :: (71, .dup, 1, 0, 0, 0) :: (72, .invokespecial 24, 3, 33, 0, 3) :: (75, .aastore, 1, 0, 0, 0) :: (76, .iinc 1 1, 3, 1, 0, 0) :: (79, .goto (-25), 3, 54, 0, 0) :: k_X8_init_82
def k_X8_init_52 : List Ent := (52, .iconst 0, 1, 0, 0, 0) :: (53, .istore_n 1, 1, 0, 0, 0) :: k_X8_init_54
def k_X8_init_23 : List Ent := (23, .iload_n 1, 1, 0, 0, 0) :: (24, .aload_n 0, 1, 0, 0, 0) :: (25, .getfield 11, 3, 9, 256, 1) :: (28, .arraylength, 1, 0, 0, 0) :: (29, .if_icmp .ge 23, 3, 52, 0, 0) :: (32, .aload_n 0, 1, 0, 0, 0) :: (33, .getfield 11, 3, 9, 256, 1) :: (36, .iload_n 1, 1, 0, 0, 0) :: (37, .new 9, 3, 6, 10, 0) :: (40, .dup, 1, 0, 0, 0) :: (41, .iload_n 1, 1, 0, 0, 0) :: (42, .invokespecial 21, 3, 10, 0, 1) :: (45, .aastore, 1, 0, 0, 0) :: (46, .iinc 1 1, 3, 1, 0, 0) :: (49, .goto (-26), 3, 23, 0, 0) :: k_X8_init_52
def k_X8_init_0 : List Ent := (0, .aload_n 0, 1, 0, 0, 0) :: (1, .invokespecial 3, 3, 1000, 0, 1) :: (4, .aload_n 0, 1, 0, 0, 0) :: (5, .iconst 4, 1, 4, 0, 0) :: (6, .anewarray 9, 3, 23, 0, 0) :: (9, .putfield 11, 3, 9, 256, 1) :: (12, .aload_n 0, 1, 0, 0, 0) :: (13, .bipush 16, 2, 16, 0, 0) :: (15, .anewarray 15, 3, 24, 0, 0) :: (18, .putfield 17, 3, 9, 257, 1) :: (21, .iconst 0, 1, 0, 0, 0) :: (22, .istore_n 1, 1, 0, 0, 0) :: k_X8_init_23
def M_X8_init : MI := (yX8_init, cX8_init, 2, none, 5, 110, 8, 1, 1, k_X8_init_0)
theorem sk_X8_init_23 : sm_seek (mP M_X8_init) 23 = k_X8_init_23 := rfl
theorem sk_X8_init_52 : sm_seek (mP M_X8_init) 52 = k_X8_init_52 := rfl
theorem sk_X8_init_54 : sm_seek (mP M_X8_init) 54 = k_X8_init_54 := rfl
theorem sk_X8_init_82 : sm_seek (mP M_X8_init) 82 = k_X8_init_82 := rfl
def k_X8_add_17 : List Ent := (17, .aload_n 0, 1, 0, 0, 0) :: (18, .iload_n 1, 1, 0, 0, 0) :: (19, .new 32, 3, 1, 4, 0) :: (22, .dup, 1, 0, 0, 0) :: (23, .iconst 0, 1, 0, 0, 0) :: (24, .iload_n 2, 1, 0, 0, 0) :: (25, .iload_n 3, 1, 0, 0, 0) :: (26, .aconst_null, 1, 0, 0, 0) :: (27, .invokespecial 34, 3, 0, 0, 1) :: (30, .invokevirtual 37, 3, 68, 0, 0) :: (33, .ireturn, 1, 0, 0, 0) :: []
def k_X8_add_14 : List Ent := (14, .bipush (-2), 2, 2, 1, 0) :: (16, .ireturn, 1, 0, 0, 0) :: k_X8_add_17
def k_X8_add_0 : List Ent := (0, .iload_n 1, 1, 0, 0, 0) :: (1, .invokestatic 25, 3, 60, 0, 2) :: (4, .ifCond .eq 10, 3, 14, 0, 0) :: (7, .iload_n 2, 1, 0, 0, 0) :: (8, .invokestatic 29, 3, 61, 0, 2) :: (11, .ifCond .ne 6, 3, 17, 0, 0) :: k_X8_add_14
def M_X8_add : MI := (yX8_add, cX8_add, 4, (some .int), 11, 252, 8, 4, 10, k_X8_add_0)
theorem sk_X8_add_14 : sm_seek (mP M_X8_add) 14 = k_X8_add_14 := rfl
theorem sk_X8_add_17 : sm_seek (mP M_X8_add) 17 = k_X8_add_17 := rfl
def k_X8_put_24 : List Ent := (24, .aload_n 0, 1, 0, 0, 0) :: (25, .iload_n 1, 1, 0, 0, 0) :: (26, .new 32, 3, 1, 4, 0) :: (29, .dup, 1, 0, 0, 0) :: (30, .iconst 1, 1, 1, 0, 0) :: (31, .iload_n 2, 1, 0, 0, 0) :: (32, .iload_n 3, 1, 0, 0, 0) :: (33, .aconst_null, 1, 0, 0, 0) :: (34, .invokespecial 34, 3, 0, 0, 1) :: (37, .invokevirtual 37, 3, 68, 0, 0) :: (40, .ireturn, 1, 0, 0, 0) :: []
def k_X8_put_21 : List Ent := (21, .bipush (-2), 2, 2, 1, 0) :: (23, .ireturn, 1, 0, 0, 0) :: k_X8_put_24
def k_X8_put_0 : List Ent := (0, .iload_n 1, 1, 0, 0, 0) :: (1, .invokestatic 25, 3, 60, 0, 2) :: (4, .ifCond .eq 17, 3, 21, 0, 0) :: (7, .iload_n 2, 1, 0, 0, 0) :: (8, .invokestatic 29, 3, 61, 0, 2) :: (11, .ifCond .eq 10, 3, 21, 0, 0) :: (14, .iload_n 3, 1, 0, 0, 0) :: (15, .invokestatic 41, 3, 62, 0, 2) :: (18, .ifCond .ne 6, 3, 24, 0, 0) :: k_X8_put_21
def M_X8_put : MI := (yX8_put, cX8_put, 4, (some .int), 11, 252, 8, 4, 10, k_X8_put_0)
theorem sk_X8_put_21 : sm_seek (mP M_X8_put) 21 = k_X8_put_21 := rfl
theorem sk_X8_put_24 : sm_seek (mP M_X8_put) 24 = k_X8_put_24 := rfl
def k_X8_take_24 : List Ent := (24, .aload_n 0, 1, 0, 0, 0) :: (25, .iload_n 1, 1, 0, 0, 0) :: (26, .new 32, 3, 1, 4, 0) :: (29, .dup, 1, 0, 0, 0) :: (30, .iconst 2, 1, 2, 0, 0) :: (31, .iload_n 2, 1, 0, 0, 0) :: (32, .iload_n 3, 1, 0, 0, 0) :: (33, .aconst_null, 1, 0, 0, 0) :: (34, .invokespecial 34, 3, 0, 0, 1) :: (37, .invokevirtual 37, 3, 68, 0, 0) :: (40, .ireturn, 1, 0, 0, 0) :: []
def k_X8_take_21 : List Ent := (21, .bipush (-2), 2, 2, 1, 0) :: (23, .ireturn, 1, 0, 0, 0) :: k_X8_take_24
def k_X8_take_0 : List Ent := (0, .iload_n 1, 1, 0, 0, 0) :: (1, .invokestatic 25, 3, 60, 0, 2) :: (4, .ifCond .eq 17, 3, 21, 0, 0) :: (7, .iload_n 2, 1, 0, 0, 0) :: (8, .invokestatic 29, 3, 61, 0, 2) :: (11, .ifCond .eq 10, 3, 21, 0, 0) :: (14, .iload_n 3, 1, 0, 0, 0) :: (15, .invokestatic 41, 3, 62, 0, 2) :: (18, .ifCond .ne 6, 3, 24, 0, 0) :: k_X8_take_21
def M_X8_take : MI := (yX8_take, cX8_take, 4, (some .int), 11, 252, 8, 4, 10, k_X8_take_0)
theorem sk_X8_take_21 : sm_seek (mP M_X8_take) 21 = k_X8_take_21 := rfl
theorem sk_X8_take_24 : sm_seek (mP M_X8_take) 24 = k_X8_take_24 := rfl
def k_X8_write_17 : List Ent := (17, .aload_n 0, 1, 0, 0, 0) :: (18, .iload_n 1, 1, 0, 0, 0) :: (19, .new 32, 3, 1, 4, 0) :: (22, .dup, 1, 0, 0, 0) :: (23, .iconst 3, 1, 3, 0, 0) :: (24, .iload_n 2, 1, 0, 0, 0) :: (25, .iload_n 3, 1, 0, 0, 0) :: (26, .aconst_null, 1, 0, 0, 0) :: (27, .invokespecial 34, 3, 0, 0, 1) :: (30, .invokevirtual 37, 3, 68, 0, 0) :: (33, .ireturn, 1, 0, 0, 0) :: []
def k_X8_write_14 : List Ent := (14, .bipush (-2), 2, 2, 1, 0) :: (16, .ireturn, 1, 0, 0, 0) :: k_X8_write_17
def k_X8_write_0 : List Ent := (0, .iload_n 1, 1, 0, 0, 0) :: (1, .invokestatic 25, 3, 60, 0, 2) :: (4, .ifCond .eq 10, 3, 14, 0, 0) :: (7, .iload_n 2, 1, 0, 0, 0) :: (8, .invokestatic 29, 3, 61, 0, 2) :: (11, .ifCond .ne 6, 3, 17, 0, 0) :: k_X8_write_14
def M_X8_write : MI := (yX8_write, cX8_write, 4, (some .int), 11, 252, 8, 4, 10, k_X8_write_0)
theorem sk_X8_write_14 : sm_seek (mP M_X8_write) 14 = k_X8_write_14 := rfl
theorem sk_X8_write_17 : sm_seek (mP M_X8_write) 17 = k_X8_write_17 := rfl
def k_X8_insert_78 : List Ent := (78, .aload_n 0, 1, 0, 0, 0) :: (79, .iload_n 1, 1, 0, 0, 0) :: (80, .new 32, 3, 1, 4, 0) :: (83, .dup, 1, 0, 0, 0) :: (84, .iconst 4, 1, 4, 0, 0) :: (85, .iload_n 2, 1, 0, 0, 0) :: (86, .iload 4, 2, 0, 0, 0) :: (88, .aload 5, 2, 0, 0, 0) :: (90, .getfield 57, 3, 3, 64, 1) :: (93, .invokespecial 34, 3, 0, 0, 1) :: (96, .invokevirtual 37, 3, 68, 0, 0) :: (99, .ireturn, 1, 0, 0, 0) :: []
def k_X8_insert_51 : List Ent := (51, .aload_n 0, 1, 0, 0, 0) :: (52, .getfield 11, 3, 9, 256, 1) :: (55, .iload_n 1, 1, 0, 0, 0) :: (56, .aaload, 1, 0, 0, 0) :: (57, .getfield 47, 3, 6, 165, 1) :: (60, .iload_n 2, 1, 0, 0, 0) :: (61, .aaload, 1, 0, 0, 0) :: (62, .iload_n 3, 1, 0, 0, 0) :: (63, .iconst 1, 1, 1, 0, 0) :: (64, .isub, 1, 0, 0, 0) :: (65, .invokevirtual 51, 3, 29, 0, 0) :: (68, .astore 5, 2, 0, 0, 0) :: (70, .aload 5, 2, 0, 0, 0) :: (72, .ifnonnull 6, 3, 78, 0, 0) :: (75, .bipush (-2), 2, 2, 1, 0) :: (77, .ireturn, 1, 0, 0, 0) :: k_X8_insert_78
def k_X8_insert_29 : List Ent := (29, .iload_n 3, 1, 0, 0, 0) :: (30, .ifCond .ne 21, 3, 51, 0, 0) :: (33, .aload_n 0, 1, 0, 0, 0) :: (34, .iload_n 1, 1, 0, 0, 0) :: (35, .new 32, 3, 1, 4, 0) :: (38, .dup, 1, 0, 0, 0) :: (39, .iconst 4, 1, 4, 0, 0) :: (40, .iload_n 2, 1, 0, 0, 0) :: (41, .iload 4, 2, 0, 0, 0) :: (43, .aconst_null, 1, 0, 0, 0) :: (44, .invokespecial 34, 3, 0, 0, 1) :: (47, .invokevirtual 37, 3, 68, 0, 0) :: (50, .ireturn, 1, 0, 0, 0) :: k_X8_insert_51
def k_X8_insert_26 : List Ent := (26, .bipush (-2), 2, 2, 1, 0) :: (28, .ireturn, 1, 0, 0, 0) :: k_X8_insert_29
def k_X8_insert_0 : List Ent := (0, .iload_n 1, 1, 0, 0, 0) :: (1, .invokestatic 25, 3, 60, 0, 2) :: (4, .ifCond .eq 22, 3, 26, 0, 0) :: (7, .iload_n 2, 1, 0, 0, 0) :: (8, .invokestatic 29, 3, 61, 0, 2) :: (11, .ifCond .eq 15, 3, 26, 0, 0) :: (14, .iload_n 3, 1, 0, 0, 0) :: (15, .ifCond .lt 11, 3, 26, 0, 0) :: (18, .iload 4, 2, 0, 0, 0) :: (20, .invokestatic 44, 3, 63, 0, 2) :: (23, .ifCond .ne 6, 3, 29, 0, 0) :: k_X8_insert_26
def M_X8_insert : MI := (yX8_insert, cX8_insert, 6, (some .int), 11, 252, 8, 5, 10, k_X8_insert_0)
theorem sk_X8_insert_26 : sm_seek (mP M_X8_insert) 26 = k_X8_insert_26 := rfl
theorem sk_X8_insert_29 : sm_seek (mP M_X8_insert) 29 = k_X8_insert_29 := rfl
theorem sk_X8_insert_51 : sm_seek (mP M_X8_insert) 51 = k_X8_insert_51 := rfl
theorem sk_X8_insert_78 : sm_seek (mP M_X8_insert) 78 = k_X8_insert_78 := rfl
def k_X8_remove_42 : List Ent := (42, .aload_n 0, 1, 0, 0, 0) :: (43, .iload_n 1, 1, 0, 0, 0) :: (44, .new 32, 3, 1, 4, 0) :: (47, .dup, 1, 0, 0, 0) :: (48, .iconst 5, 1, 5, 0, 0) :: (49, .iload_n 2, 1, 0, 0, 0) :: (50, .iconst 0, 1, 0, 0, 0) :: (51, .aload 4, 2, 0, 0, 0) :: (53, .getfield 57, 3, 3, 64, 1) :: (56, .invokespecial 34, 3, 0, 0, 1) :: (59, .invokevirtual 37, 3, 68, 0, 0) :: (62, .ireturn, 1, 0, 0, 0) :: []
def k_X8_remove_17 : List Ent := (17, .aload_n 0, 1, 0, 0, 0) :: (18, .getfield 11, 3, 9, 256, 1) :: (21, .iload_n 1, 1, 0, 0, 0) :: (22, .aaload, 1, 0, 0, 0) :: (23, .getfield 47, 3, 6, 165, 1) :: (26, .iload_n 2, 1, 0, 0, 0) :: (27, .aaload, 1, 0, 0, 0) :: (28, .iload_n 3, 1, 0, 0, 0) :: (29, .invokevirtual 51, 3, 29, 0, 0) :: (32, .astore 4, 2, 0, 0, 0) :: (34, .aload 4, 2, 0, 0, 0) :: (36, .ifnonnull 6, 3, 42, 0, 0) :: (39, .bipush (-2), 2, 2, 1, 0) :: (41, .ireturn, 1, 0, 0, 0) :: k_X8_remove_42
def k_X8_remove_14 : List Ent := (14, .bipush (-2), 2, 2, 1, 0) :: (16, .ireturn, 1, 0, 0, 0) :: k_X8_remove_17
def k_X8_remove_0 : List Ent := (0, .iload_n 1, 1, 0, 0, 0) :: (1, .invokestatic 25, 3, 60, 0, 2) :: (4, .ifCond .eq 10, 3, 14, 0, 0) :: (7, .iload_n 2, 1, 0, 0, 0) :: (8, .invokestatic 29, 3, 61, 0, 2) :: (11, .ifCond .ne 6, 3, 17, 0, 0) :: k_X8_remove_14
def M_X8_remove : MI := (yX8_remove, cX8_remove, 5, (some .int), 11, 252, 8, 4, 10, k_X8_remove_0)
theorem sk_X8_remove_14 : sm_seek (mP M_X8_remove) 14 = k_X8_remove_14 := rfl
theorem sk_X8_remove_17 : sm_seek (mP M_X8_remove) 17 = k_X8_remove_17 := rfl
theorem sk_X8_remove_42 : sm_seek (mP M_X8_remove) 42 = k_X8_remove_42 := rfl
def k_X8_deliver_79 : List Ent := (79, .iload 6, 2, 0, 0, 0) :: (81, .ireturn, 1, 0, 0, 0) :: []
def k_X8_deliver_32 : List Ent := (32, .aload_n 0, 1, 0, 0, 0) :: (33, .iload_n 1, 1, 0, 0, 0) :: (34, .iload_n 2, 1, 0, 0, 0) :: (35, .invokevirtual 71, 3, 67, 0, 0) :: (38, .getfield 75, 3, 8, 224, 1) :: (41, .iload_n 3, 1, 0, 0, 0) :: (42, .invokevirtual 79, 3, 137, 0, 0) :: (45, .checkcast 85, 3, 4, 0, 0) :: (48, .astore 5, 2, 0, 0, 0) :: (50, .aload 4, 2, 0, 0, 0) :: (52, .aload 5, 2, 0, 0, 0) :: (54, .invokevirtual 87, 3, 15, 0, 0) :: (57, .istore 6, 2, 0, 0, 0) :: (59, .aload 5, 2, 0, 0, 0) :: (61, .getfield 91, 3, 4, 96, 0) :: (64, .iconst 2, 1, 2, 0, 0) :: (65, .if_icmp .ne 14, 3, 79, 0, 0) :: (68, .aload_n 0, 1, 0, 0, 0) :: (69, .iload_n 2, 1, 0, 0, 0) :: (70, .iload_n 1, 1, 0, 0, 0) :: (71, .aload 5, 2, 0, 0, 0) :: (73, .getfield 95, 3, 4, 98, 1) :: (76, .invokevirtual 99, 3, 70, 0, 0) :: k_X8_deliver_79
def k_X8_deliver_13 : List Ent := (13, .aload_n 0, 1, 0, 0, 0) :: (14, .getfield 11, 3, 9, 256, 1) :: (17, .iload_n 2, 1, 0, 0, 0) :: (18, .aaload, 1, 0, 0, 0) :: (19, .astore 4, 2, 0, 0, 0) :: (21, .aload 4, 2, 0, 0, 0) :: (23, .getfield 67, 3, 6, 169, 2) :: (26, .ifCond .ne 6, 3, 32, 0, 0) :: (29, .bipush (-4), 2, 4, 1, 0) :: (31, .ireturn, 1, 0, 0, 0) :: k_X8_deliver_32
def k_X8_deliver_0 : List Ent := (0, .aload_n 0, 1, 0, 0, 0) :: (1, .iload_n 1, 1, 0, 0, 0) :: (2, .iload_n 2, 1, 0, 0, 0) :: (3, .iload_n 3, 1, 0, 0, 0) :: (4, .invokevirtual 63, 3, 66, 0, 0) :: (7, .ifCond .ne 6, 3, 13, 0, 0) :: (10, .bipush (-2), 2, 2, 1, 0) :: (12, .ireturn, 1, 0, 0, 0) :: k_X8_deliver_13
def M_X8_deliver : MI := (yX8_deliver, cX8_deliver, 7, (some .int), 11, 248, 8, 4, 10, k_X8_deliver_0)
theorem sk_X8_deliver_13 : sm_seek (mP M_X8_deliver) 13 = k_X8_deliver_13 := rfl
theorem sk_X8_deliver_32 : sm_seek (mP M_X8_deliver) 32 = k_X8_deliver_32 := rfl
theorem sk_X8_deliver_79 : sm_seek (mP M_X8_deliver) 79 = k_X8_deliver_79 := rfl
def k_X8_copy_32 : List Ent := (32, .aload 4, 2, 0, 0, 0) :: (34, .aload 4, 2, 0, 0, 0) :: (36, .getfield 75, 3, 8, 224, 1) :: (39, .iload_n 3, 1, 0, 0, 0) :: (40, .invokevirtual 107, 3, 134, 0, 0) :: (43, .checkcast 85, 3, 4, 0, 0) :: (46, .invokevirtual 110, 3, 35, 0, 0) :: (49, .aload 4, 2, 0, 0, 0) :: (51, .getfield 75, 3, 8, 224, 1) :: (54, .invokevirtual 114, 3, 131, 0, 0) :: (57, .ireturn, 1, 0, 0, 0) :: []
def k_X8_copy_13 : List Ent := (13, .aload_n 0, 1, 0, 0, 0) :: (14, .iload_n 1, 1, 0, 0, 0) :: (15, .iload_n 2, 1, 0, 0, 0) :: (16, .invokevirtual 71, 3, 67, 0, 0) :: (19, .astore 4, 2, 0, 0, 0) :: (21, .aload 4, 2, 0, 0, 0) :: (23, .invokevirtual 103, 3, 34, 0, 0) :: (26, .ifCond .eq 6, 3, 32, 0, 0) :: (29, .bipush (-3), 2, 3, 1, 0) :: (31, .ireturn, 1, 0, 0, 0) :: k_X8_copy_32
def k_X8_copy_0 : List Ent := (0, .aload_n 0, 1, 0, 0, 0) :: (1, .iload_n 1, 1, 0, 0, 0) :: (2, .iload_n 2, 1, 0, 0, 0) :: (3, .iload_n 3, 1, 0, 0, 0) :: (4, .invokevirtual 63, 3, 66, 0, 0) :: (7, .ifCond .ne 6, 3, 13, 0, 0) :: (10, .bipush (-2), 2, 2, 1, 0) :: (12, .ireturn, 1, 0, 0, 0) :: k_X8_copy_13
def M_X8_copy : MI := (yX8_copy, cX8_copy, 5, (some .int), 8, 181, 8, 4, 10, k_X8_copy_0)
theorem sk_X8_copy_13 : sm_seek (mP M_X8_copy) 13 = k_X8_copy_13 := rfl
theorem sk_X8_copy_32 : sm_seek (mP M_X8_copy) 32 = k_X8_copy_32 := rfl
def k_X8_lose_13 : List Ent := (13, .aload_n 0, 1, 0, 0, 0) :: (14, .iload_n 1, 1, 0, 0, 0) :: (15, .iload_n 2, 1, 0, 0, 0) :: (16, .invokevirtual 71, 3, 67, 0, 0) :: (19, .astore 4, 2, 0, 0, 0) :: (21, .aload 4, 2, 0, 0, 0) :: (23, .getfield 75, 3, 8, 224, 1) :: (26, .iload_n 3, 1, 0, 0, 0) :: (27, .invokevirtual 79, 3, 137, 0, 0) :: (30, .pop, 1, 0, 0, 0) :: (31, .aload 4, 2, 0, 0, 0) :: (33, .getfield 75, 3, 8, 224, 1) :: (36, .invokevirtual 114, 3, 131, 0, 0) :: (39, .ireturn, 1, 0, 0, 0) :: []
def k_X8_lose_0 : List Ent := (0, .aload_n 0, 1, 0, 0, 0) :: (1, .iload_n 1, 1, 0, 0, 0) :: (2, .iload_n 2, 1, 0, 0, 0) :: (3, .iload_n 3, 1, 0, 0, 0) :: (4, .invokevirtual 63, 3, 66, 0, 0) :: (7, .ifCond .ne 6, 3, 13, 0, 0) :: (10, .bipush (-2), 2, 2, 1, 0) :: (12, .ireturn, 1, 0, 0, 0) :: k_X8_lose_13
def M_X8_lose : MI := (yX8_lose, cX8_lose, 5, (some .int), 4, 94, 8, 4, 10, k_X8_lose_0)
theorem sk_X8_lose_13 : sm_seek (mP M_X8_lose) 13 = k_X8_lose_13 := rfl
def k_X8_ask_0 : List Ent := (0, .aload_n 0, 1, 0, 0, 0) :: (1, .iload_n 1, 1, 0, 0, 0) :: (2, .iload_n 2, 1, 0, 0, 0) :: (3, .iconst 2, 1, 2, 0, 0) :: (4, .invokevirtual 118, 3, 69, 0, 0) :: (7, .ireturn, 1, 0, 0, 0) :: []
def M_X8_ask : MI := (yX8_ask, cX8_ask, 3, (some .int), 9, 205, 8, 3, 10, k_X8_ask_0)
def k_X8_tell_0 : List Ent := (0, .aload_n 0, 1, 0, 0, 0) :: (1, .iload_n 1, 1, 0, 0, 0) :: (2, .iload_n 2, 1, 0, 0, 0) :: (3, .iconst 1, 1, 1, 0, 0) :: (4, .invokevirtual 118, 3, 69, 0, 0) :: (7, .ireturn, 1, 0, 0, 0) :: []
def M_X8_tell : MI := (yX8_tell, cX8_tell, 3, (some .int), 9, 205, 8, 3, 10, k_X8_tell_0)
end
section
def k_X8_power_10 : List Ent := (10, .aload_n 0, 1, 0, 0, 0) :: (11, .getfield 11, 3, 9, 256, 1) :: (14, .iload_n 1, 1, 0, 0, 0) :: (15, .aaload, 1, 0, 0, 0) :: (16, .getfield 67, 3, 6, 169, 2) :: (19, .invokestatic 122, 3, 65, 0, 2) :: (22, .istore_n 3, 1, 0, 0, 0) :: (23, .aload_n 0, 1, 0, 0, 0) :: (24, .getfield 11, 3, 9, 256, 1) :: (27, .iload_n 1, 1, 0, 0, 0) :: (28, .aaload, 1, 0, 0, 0) :: (29, .iload_n 2, 1, 0, 0, 0) :: (30, .putfield 67, 3, 6, 169, 2) :: (33, .iload_n 3, 1, 0, 0, 0) :: (34, .ireturn, 1, 0, 0, 0) :: []
def k_X8_power_0 : List Ent := (0, .iload_n 1, 1, 0, 0, 0) :: (1, .invokestatic 25, 3, 60, 0, 2) :: (4, .ifCond .ne 6, 3, 10, 0, 0) :: (7, .bipush (-2), 2, 2, 1, 0) :: (9, .ireturn, 1, 0, 0, 0) :: k_X8_power_10
def M_X8_power : MI := (yX8_power, cX8_power, 4, (some .int), 1, 20, 8, 3, 10, k_X8_power_0)
theorem sk_X8_power_10 : sm_seek (mP M_X8_power) 10 = k_X8_power_10 := rfl
def k_X8_counter_16 : List Ent := (16, .aload_n 0, 1, 0, 0, 0) :: (17, .getfield 11, 3, 9, 256, 1) :: (20, .iload_n 1, 1, 0, 0, 0) :: (21, .aaload, 1, 0, 0, 0) :: (22, .getfield 126, 3, 6, 162, 1) :: (25, .iload_n 2, 1, 0, 0, 0) :: (26, .iaload, 1, 0, 0, 0) :: (27, .ireturn, 1, 0, 0, 0) :: []
def k_X8_counter_14 : List Ent := (14, .iconst 0, 1, 0, 0, 0) :: (15, .ireturn, 1, 0, 0, 0) :: k_X8_counter_16
def k_X8_counter_0 : List Ent := (0, .iload_n 1, 1, 0, 0, 0) :: (1, .invokestatic 25, 3, 60, 0, 2) :: (4, .ifCond .eq 10, 3, 14, 0, 0) :: (7, .iload_n 2, 1, 0, 0, 0) :: (8, .invokestatic 29, 3, 61, 0, 2) :: (11, .ifCond .ne 5, 3, 16, 0, 0) :: k_X8_counter_14
def M_X8_counter : MI := (yX8_counter, cX8_counter, 3, (some .int), 1, 20, 8, 3, 10, k_X8_counter_0)
theorem sk_X8_counter_14 : sm_seek (mP M_X8_counter) 14 = k_X8_counter_14 := rfl
theorem sk_X8_counter_16 : sm_seek (mP M_X8_counter) 16 = k_X8_counter_16 := rfl
def k_X8_has_24 : List Ent := (24, .aload_n 0, 1, 0, 0, 0) :: (25, .getfield 11, 3, 9, 256, 1) :: (28, .iload_n 1, 1, 0, 0, 0) :: (29, .aaload, 1, 0, 0, 0) :: (30, .iload_n 2, 1, 0, 0, 0) :: (31, .invokevirtual 130, 3, 13, 0, 0) :: (34, .iload_n 3, 1, 0, 0, 0) :: (35, .iushr, 1, 0, 0, 0) :: (36, .iconst 1, 1, 1, 0, 0) :: (37, .iand, 1, 0, 0, 0) :: (38, .ireturn, 1, 0, 0, 0) :: []
def k_X8_has_21 : List Ent := (21, .bipush (-2), 2, 2, 1, 0) :: (23, .ireturn, 1, 0, 0, 0) :: k_X8_has_24
def k_X8_has_0 : List Ent := (0, .iload_n 1, 1, 0, 0, 0) :: (1, .invokestatic 25, 3, 60, 0, 2) :: (4, .ifCond .eq 17, 3, 21, 0, 0) :: (7, .iload_n 2, 1, 0, 0, 0) :: (8, .invokestatic 29, 3, 61, 0, 2) :: (11, .ifCond .eq 10, 3, 21, 0, 0) :: (14, .iload_n 3, 1, 0, 0, 0) :: (15, .invokestatic 41, 3, 62, 0, 2) :: (18, .ifCond .ne 6, 3, 24, 0, 0) :: k_X8_has_21
def M_X8_has : MI := (yX8_has, cX8_has, 4, (some .int), 5, 116, 8, 4, 10, k_X8_has_0)
theorem sk_X8_has_21 : sm_seek (mP M_X8_has) 21 = k_X8_has_21 := rfl
theorem sk_X8_has_24 : sm_seek (mP M_X8_has) 24 = k_X8_has_24 := rfl
def k_X8_size_17 : List Ent := (17, .aload_n 0, 1, 0, 0, 0) :: (18, .getfield 11, 3, 9, 256, 1) :: (21, .iload_n 1, 1, 0, 0, 0) :: (22, .aaload, 1, 0, 0, 0) :: (23, .iload_n 2, 1, 0, 0, 0) :: (24, .invokevirtual 130, 3, 13, 0, 0) :: (27, .invokestatic 134, 3, 125, 0, 2) :: (30, .ireturn, 1, 0, 0, 0) :: []
def k_X8_size_14 : List Ent := (14, .bipush (-2), 2, 2, 1, 0) :: (16, .ireturn, 1, 0, 0, 0) :: k_X8_size_17
def k_X8_size_0 : List Ent := (0, .iload_n 1, 1, 0, 0, 0) :: (1, .invokestatic 25, 3, 60, 0, 2) :: (4, .ifCond .eq 10, 3, 14, 0, 0) :: (7, .iload_n 2, 1, 0, 0, 0) :: (8, .invokestatic 29, 3, 61, 0, 2) :: (11, .ifCond .ne 6, 3, 17, 0, 0) :: k_X8_size_14
def M_X8_size : MI := (yX8_size, cX8_size, 3, (some .int), 5, 116, 8, 3, 10, k_X8_size_0)
theorem sk_X8_size_14 : sm_seek (mP M_X8_size) 14 = k_X8_size_14 := rfl
theorem sk_X8_size_17 : sm_seek (mP M_X8_size) 17 = k_X8_size_17 := rfl
def k_X8_register_43 : List Ent := (43, .ireturn, 1, 0, 0, 0) :: []
def k_X8_register_36 : List Ent := (36, .aload_n 3, 1, 0, 0, 0) :: (37, .getfield 143, 3, 5, 128, 1) :: (40, .getfield 149, 3, 1, 2, 0) :: k_X8_register_43
def k_X8_register_16 : List Ent := (16, .aload_n 0, 1, 0, 0, 0) :: (17, .getfield 11, 3, 9, 256, 1) :: (20, .iload_n 1, 1, 0, 0, 0) :: (21, .aaload, 1, 0, 0, 0) :: (22, .getfield 139, 3, 6, 164, 1) :: (25, .iload_n 2, 1, 0, 0, 0) :: (26, .aaload, 1, 0, 0, 0) :: (27, .astore_n 3, 1, 0, 0, 0) :: (28, .aload_n 3, 1, 0, 0, 0) :: (29, .ifnonnull 7, 3, 36, 0, 0) :: (32, .iconst 0, 1, 0, 0, 0) :: (33, .goto 10, 3, 43, 0, 0) :: k_X8_register_36
def k_X8_register_14 : List Ent := (14, .iconst 0, 1, 0, 0, 0) :: (15, .ireturn, 1, 0, 0, 0) :: k_X8_register_16
def k_X8_register_0 : List Ent := (0, .iload_n 1, 1, 0, 0, 0) :: (1, .invokestatic 25, 3, 60, 0, 2) :: (4, .ifCond .eq 10, 3, 14, 0, 0) :: (7, .iload_n 2, 1, 0, 0, 0) :: (8, .invokestatic 29, 3, 61, 0, 2) :: (11, .ifCond .ne 5, 3, 16, 0, 0) :: k_X8_register_14
def M_X8_register : MI := (yX8_register, cX8_register, 4, (some .int), 1, 20, 8, 3, 10, k_X8_register_0)
theorem sk_X8_register_14 : sm_seek (mP M_X8_register) 14 = k_X8_register_14 := rfl
theorem sk_X8_register_16 : sm_seek (mP M_X8_register) 16 = k_X8_register_16 := rfl
theorem sk_X8_register_36 : sm_seek (mP M_X8_register) 36 = k_X8_register_36 := rfl
theorem sk_X8_register_43 : sm_seek (mP M_X8_register) 43 = k_X8_register_43 := rfl
def k_X8_length_17 : List Ent := (17, .aload_n 0, 1, 0, 0, 0) :: (18, .getfield 11, 3, 9, 256, 1) :: (21, .iload_n 1, 1, 0, 0, 0) :: (22, .aaload, 1, 0, 0, 0) :: (23, .getfield 47, 3, 6, 165, 1) :: (26, .iload_n 2, 1, 0, 0, 0) :: (27, .aaload, 1, 0, 0, 0) :: (28, .invokevirtual 152, 3, 28, 0, 0) :: (31, .ireturn, 1, 0, 0, 0) :: []
def k_X8_length_14 : List Ent := (14, .bipush (-2), 2, 2, 1, 0) :: (16, .ireturn, 1, 0, 0, 0) :: k_X8_length_17
def k_X8_length_0 : List Ent := (0, .iload_n 1, 1, 0, 0, 0) :: (1, .invokestatic 25, 3, 60, 0, 2) :: (4, .ifCond .eq 10, 3, 14, 0, 0) :: (7, .iload_n 2, 1, 0, 0, 0) :: (8, .invokestatic 29, 3, 61, 0, 2) :: (11, .ifCond .ne 6, 3, 17, 0, 0) :: k_X8_length_14
def M_X8_length : MI := (yX8_length, cX8_length, 3, (some .int), 1, 22, 8, 3, 10, k_X8_length_0)
theorem sk_X8_length_14 : sm_seek (mP M_X8_length) 14 = k_X8_length_14 := rfl
theorem sk_X8_length_17 : sm_seek (mP M_X8_length) 17 = k_X8_length_17 := rfl
def k_X8_character_53 : List Ent := (53, .ireturn, 1, 0, 0, 0) :: []
def k_X8_character_42 : List Ent := (42, .aload 4, 2, 0, 0, 0) :: (44, .getfield 57, 3, 3, 64, 1) :: (47, .getfield 143, 3, 5, 128, 1) :: (50, .getfield 149, 3, 1, 2, 0) :: k_X8_character_53
def k_X8_character_16 : List Ent := (16, .aload_n 0, 1, 0, 0, 0) :: (17, .getfield 11, 3, 9, 256, 1) :: (20, .iload_n 1, 1, 0, 0, 0) :: (21, .aaload, 1, 0, 0, 0) :: (22, .getfield 47, 3, 6, 165, 1) :: (25, .iload_n 2, 1, 0, 0, 0) :: (26, .aaload, 1, 0, 0, 0) :: (27, .iload_n 3, 1, 0, 0, 0) :: (28, .invokevirtual 51, 3, 29, 0, 0) :: (31, .astore 4, 2, 0, 0, 0) :: (33, .aload 4, 2, 0, 0, 0) :: (35, .ifnonnull 7, 3, 42, 0, 0) :: (38, .iconst (-1), 1, 1, 1, 0) :: (39, .goto 14, 3, 53, 0, 0) :: k_X8_character_42
def k_X8_character_14 : List Ent := (14, .iconst (-1), 1, 1, 1, 0) :: (15, .ireturn, 1, 0, 0, 0) :: k_X8_character_16
def k_X8_character_0 : List Ent := (0, .iload_n 1, 1, 0, 0, 0) :: (1, .invokestatic 25, 3, 60, 0, 2) :: (4, .ifCond .eq 10, 3, 14, 0, 0) :: (7, .iload_n 2, 1, 0, 0, 0) :: (8, .invokestatic 29, 3, 61, 0, 2) :: (11, .ifCond .ne 5, 3, 16, 0, 0) :: k_X8_character_14
def M_X8_character : MI := (yX8_character, cX8_character, 5, (some .int), 1, 23, 8, 4, 10, k_X8_character_0)
theorem sk_X8_character_14 : sm_seek (mP M_X8_character) 14 = k_X8_character_14 := rfl
theorem sk_X8_character_16 : sm_seek (mP M_X8_character) 16 = k_X8_character_16 := rfl
theorem sk_X8_character_42 : sm_seek (mP M_X8_character) 42 = k_X8_character_42 := rfl
theorem sk_X8_character_53 : sm_seek (mP M_X8_character) 53 = k_X8_character_53 := rfl
def k_X8_clock_0 : List Ent := (0, .aload_n 0, 1, 0, 0, 0) :: (1, .iload_n 1, 1, 0, 0, 0) :: (2, .iload_n 1, 1, 0, 0, 0) :: (3, .iload_n 2, 1, 0, 0, 0) :: (4, .invokevirtual 155, 3, 56, 0, 0) :: (7, .ireturn, 1, 0, 0, 0) :: []
def M_X8_clock : MI := (yX8_clock, cX8_clock, 3, (some .int), 2, 43, 8, 3, 10, k_X8_clock_0)
def k_X8_knows_24 : List Ent := (24, .aload_n 0, 1, 0, 0, 0) :: (25, .getfield 11, 3, 9, 256, 1) :: (28, .iload_n 1, 1, 0, 0, 0) :: (29, .aaload, 1, 0, 0, 0) :: (30, .getfield 158, 3, 6, 161, 1) :: (33, .iload_n 2, 1, 0, 0, 0) :: (34, .aaload, 1, 0, 0, 0) :: (35, .getfield 162, 3, 2, 32, 1) :: (38, .iload_n 3, 1, 0, 0, 0) :: (39, .iaload, 1, 0, 0, 0) :: (40, .ireturn, 1, 0, 0, 0) :: []
def k_X8_knows_21 : List Ent := (21, .bipush (-2), 2, 2, 1, 0) :: (23, .ireturn, 1, 0, 0, 0) :: k_X8_knows_24
def k_X8_knows_0 : List Ent := (0, .iload_n 1, 1, 0, 0, 0) :: (1, .invokestatic 25, 3, 60, 0, 2) :: (4, .ifCond .eq 17, 3, 21, 0, 0) :: (7, .iload_n 2, 1, 0, 0, 0) :: (8, .invokestatic 25, 3, 60, 0, 2) :: (11, .ifCond .eq 10, 3, 21, 0, 0) :: (14, .iload_n 3, 1, 0, 0, 0) :: (15, .invokestatic 25, 3, 60, 0, 2) :: (18, .ifCond .ne 6, 3, 24, 0, 0) :: k_X8_knows_21
def M_X8_knows : MI := (yX8_knows, cX8_knows, 4, (some .int), 1, 20, 8, 4, 10, k_X8_knows_0)
theorem sk_X8_knows_21 : sm_seek (mP M_X8_knows) 21 = k_X8_knows_21 := rfl
theorem sk_X8_knows_24 : sm_seek (mP M_X8_knows) 24 = k_X8_knows_24 := rfl
def k_X8_count_174 : List Ent := (174, .ireturn, 1, 0, 0, 0) :: []
def k_X8_count_160 : List Ent := (160, .aload_n 3, 1, 0, 0, 0) :: (161, .getfield 170, 3, 6, 166, 1) :: (164, .iconst 0, 1, 0, 0, 0) :: (165, .invokevirtual 107, 3, 134, 0, 0) :: (168, .checkcast 144, 3, 5, 0, 0) :: (171, .getfield 185, 3, 5, 130, 0) :: k_X8_count_174
def k_X8_count_146 : List Ent := (146, .aload_n 3, 1, 0, 0, 0) :: (147, .getfield 170, 3, 6, 166, 1) :: (150, .invokevirtual 179, 3, 132, 0, 0) :: (153, .ifCond .eq 7, 3, 160, 0, 0) :: (156, .iconst (-1), 1, 1, 1, 0) :: (157, .goto 17, 3, 174, 0, 0) :: k_X8_count_160
def k_X8_count_145 : List Ent := (145, .ireturn, 1, 0, 0, 0) :: k_X8_count_146
def k_X8_count_131 : List Ent := (131, .aload_n 3, 1, 0, 0, 0) :: (132, .getfield 170, 3, 6, 166, 1) :: (135, .iconst 0, 1, 0, 0, 0) :: (136, .invokevirtual 107, 3, 134, 0, 0) :: (139, .checkcast 144, 3, 5, 0, 0) :: (142, .getfield 182, 3, 5, 129, 0) :: k_X8_count_145
def k_X8_count_117 : List Ent := (117, .aload_n 3, 1, 0, 0, 0) :: (118, .getfield 170, 3, 6, 166, 1) :: (121, .invokevirtual 179, 3, 132, 0, 0) :: (124, .ifCond .eq 7, 3, 131, 0, 0) :: (127, .iconst (-1), 1, 1, 1, 0) :: (128, .goto 17, 3, 145, 0, 0) :: k_X8_count_131
def k_X8_count_97 : List Ent := (97, .aload_n 3, 1, 0, 0, 0) :: (98, .getfield 47, 3, 6, 165, 1) :: (101, .iconst 0, 1, 0, 0, 0) :: (102, .aaload, 1, 0, 0, 0) :: (103, .invokevirtual 176, 3, 27, 0, 0) :: (106, .aload_n 3, 1, 0, 0, 0) :: (107, .getfield 47, 3, 6, 165, 1) :: (110, .iconst 1, 1, 1, 0, 0) :: (111, .aaload, 1, 0, 0, 0) :: (112, .invokevirtual 176, 3, 27, 0, 0) :: (115, .iadd, 1, 0, 0, 0) :: (116, .ireturn, 1, 0, 0, 0) :: k_X8_count_117
def k_X8_count_89 : List Ent := (89, .aload_n 3, 1, 0, 0, 0) :: (90, .getfield 67, 3, 6, 169, 2) :: (93, .invokestatic 122, 3, 65, 0, 2) :: (96, .ireturn, 1, 0, 0, 0) :: k_X8_count_97
def k_X8_count_81 : List Ent := (81, .aload_n 3, 1, 0, 0, 0) :: (82, .getfield 173, 3, 6, 167, 1) :: (85, .invokevirtual 114, 3, 131, 0, 0) :: (88, .ireturn, 1, 0, 0, 0) :: k_X8_count_89
def k_X8_count_73 : List Ent := (73, .aload_n 3, 1, 0, 0, 0) :: (74, .getfield 170, 3, 6, 166, 1) :: (77, .invokevirtual 114, 3, 131, 0, 0) :: (80, .ireturn, 1, 0, 0, 0) :: k_X8_count_81
def k_X8_count_68 : List Ent := (68, .aload_n 3, 1, 0, 0, 0) :: (69, .getfield 167, 3, 6, 168, 0) :: (72, .ireturn, 1, 0, 0, 0) :: k_X8_count_73
def k_X8_count_20 : List Ent := (20, .aload_n 0, 1, 0, 0, 0) :: (21, .getfield 11, 3, 9, 256, 1) :: (24, .iload_n 1, 1, 0, 0, 0) :: (25, .aaload, 1, 0, 0, 0) :: (26, .astore_n 3, 1, 0, 0, 0) :: (27, .iload_n 2, 1, 0, 0, 0) :: (28, .tableswitch 118 0 5 #[40, 45, 53, 61, 69, 89], 40, 0, 0, 0) :: k_X8_count_68
def k_X8_count_17 : List Ent := (17, .bipush (-2), 2, 2, 1, 0) :: (19, .ireturn, 1, 0, 0, 0) :: k_X8_count_20
def k_X8_count_0 : List Ent := (0, .iload_n 1, 1, 0, 0, 0) :: (1, .invokestatic 25, 3, 60, 0, 2) :: (4, .ifCond .eq 13, 3, 17, 0, 0) :: (7, .iload_n 2, 1, 0, 0, 0) :: (8, .ifCond .lt 9, 3, 17, 0, 0) :: (11, .iload_n 2, 1, 0, 0, 0) :: (12, .bipush 6, 2, 6, 0, 0) :: (14, .if_icmp .le 6, 3, 20, 0, 0) :: k_X8_count_17
def M_X8_count : MI := (yX8_count, cX8_count, 4, (some .int), 4, 92, 8, 3, 10, k_X8_count_0)
theorem sk_X8_count_17 : sm_seek (mP M_X8_count) 17 = k_X8_count_17 := rfl
theorem sk_X8_count_20 : sm_seek (mP M_X8_count) 20 = k_X8_count_20 := rfl
theorem sk_X8_count_68 : sm_seek (mP M_X8_count) 68 = k_X8_count_68 := rfl
theorem sk_X8_count_73 : sm_seek (mP M_X8_count) 73 = k_X8_count_73 := rfl
theorem sk_X8_count_81 : sm_seek (mP M_X8_count) 81 = k_X8_count_81 := rfl
theorem sk_X8_count_89 : sm_seek (mP M_X8_count) 89 = k_X8_count_89 := rfl
theorem sk_X8_count_97 : sm_seek (mP M_X8_count) 97 = k_X8_count_97 := rfl
theorem sk_X8_count_117 : sm_seek (mP M_X8_count) 117 = k_X8_count_117 := rfl
theorem sk_X8_count_131 : sm_seek (mP M_X8_count) 131 = k_X8_count_131 := rfl
theorem sk_X8_count_145 : sm_seek (mP M_X8_count) 145 = k_X8_count_145 := rfl
theorem sk_X8_count_146 : sm_seek (mP M_X8_count) 146 = k_X8_count_146 := rfl
theorem sk_X8_count_160 : sm_seek (mP M_X8_count) 160 = k_X8_count_160 := rfl
theorem sk_X8_count_174 : sm_seek (mP M_X8_count) 174 = k_X8_count_174 := rfl
def k_X8_message_153 : List Ent := (153, .ireturn, 1, 0, 0, 0) :: []
def k_X8_message_145 : List Ent := (145, .aload 5, 2, 0, 0, 0) :: (147, .getfield 195, 3, 4, 99, 1) :: (150, .getfield 198, 3, 5, 131, 0) :: k_X8_message_153
def k_X8_message_133 : List Ent := (133, .aload 5, 2, 0, 0, 0) :: (135, .getfield 195, 3, 4, 99, 1) :: (138, .ifnonnull 7, 3, 145, 0, 0) :: (141, .iconst 0, 1, 0, 0, 0) :: (142, .goto 11, 3, 153, 0, 0) :: k_X8_message_145
def k_X8_message_132 : List Ent := (132, .ireturn, 1, 0, 0, 0) :: k_X8_message_133
def k_X8_message_124 : List Ent := (124, .aload 5, 2, 0, 0, 0) :: (126, .getfield 195, 3, 4, 99, 1) :: (129, .getfield 185, 3, 5, 130, 0) :: k_X8_message_132
def k_X8_message_112 : List Ent := (112, .aload 5, 2, 0, 0, 0) :: (114, .getfield 195, 3, 4, 99, 1) :: (117, .ifnonnull 7, 3, 124, 0, 0) :: (120, .iconst 0, 1, 0, 0, 0) :: (121, .goto 11, 3, 132, 0, 0) :: k_X8_message_124
def k_X8_message_106 : List Ent := (106, .aload 5, 2, 0, 0, 0) :: (108, .getfield 192, 3, 4, 97, 0) :: (111, .ireturn, 1, 0, 0, 0) :: k_X8_message_112
def k_X8_message_100 : List Ent := (100, .aload 5, 2, 0, 0, 0) :: (102, .getfield 91, 3, 4, 96, 0) :: (105, .ireturn, 1, 0, 0, 0) :: k_X8_message_106
def k_X8_message_73 : List Ent := (73, .iload 4, 2, 0, 0, 0) :: (75, .tableswitch 58 0 2 #[25, 31, 37], 25, 0, 0, 0) :: k_X8_message_100
def k_X8_message_35 : List Ent := (35, .aload_n 0, 1, 0, 0, 0) :: (36, .iload_n 1, 1, 0, 0, 0) :: (37, .iload_n 2, 1, 0, 0, 0) :: (38, .invokevirtual 71, 3, 67, 0, 0) :: (41, .getfield 75, 3, 8, 224, 1) :: (44, .iload_n 3, 1, 0, 0, 0) :: (45, .invokevirtual 107, 3, 134, 0, 0) :: (48, .checkcast 85, 3, 4, 0, 0) :: (51, .astore 5, 2, 0, 0, 0) :: (53, .iload 4, 2, 0, 0, 0) :: (55, .iconst 4, 1, 4, 0, 0) :: (56, .if_icmp .lt 17, 3, 73, 0, 0) :: (59, .aload 5, 2, 0, 0, 0) :: (61, .getfield 95, 3, 4, 98, 1) :: (64, .getfield 162, 3, 2, 32, 1) :: (67, .iload 4, 2, 0, 0, 0) :: (69, .iconst 4, 1, 4, 0, 0) :: (70, .isub, 1, 0, 0, 0) :: (71, .iaload, 1, 0, 0, 0) :: (72, .ireturn, 1, 0, 0, 0) :: k_X8_message_73
def k_X8_message_23 : List Ent := (23, .aload_n 0, 1, 0, 0, 0) :: (24, .iload_n 1, 1, 0, 0, 0) :: (25, .iload_n 2, 1, 0, 0, 0) :: (26, .iload_n 3, 1, 0, 0, 0) :: (27, .invokevirtual 63, 3, 66, 0, 0) :: (30, .ifCond .ne 5, 3, 35, 0, 0) :: (33, .iconst (-1), 1, 1, 1, 0) :: (34, .ireturn, 1, 0, 0, 0) :: k_X8_message_35
def k_X8_message_20 : List Ent := (20, .bipush (-2), 2, 2, 1, 0) :: (22, .ireturn, 1, 0, 0, 0) :: k_X8_message_23
def k_X8_message_0 : List Ent := (0, .iload_n 1, 1, 0, 0, 0) :: (1, .iload_n 2, 1, 0, 0, 0) :: (2, .invokestatic 188, 3, 64, 0, 2) :: (5, .ifCond .eq 15, 3, 20, 0, 0) :: (8, .iload 4, 2, 0, 0, 0) :: (10, .ifCond .lt 10, 3, 20, 0, 0) :: (13, .iload 4, 2, 0, 0, 0) :: (15, .bipush 7, 2, 7, 0, 0) :: (17, .if_icmp .le 6, 3, 23, 0, 0) :: k_X8_message_20
def M_X8_message : MI := (yX8_message, cX8_message, 6, (some .int), 4, 92, 8, 5, 10, k_X8_message_0)
theorem sk_X8_message_20 : sm_seek (mP M_X8_message) 20 = k_X8_message_20 := rfl
theorem sk_X8_message_23 : sm_seek (mP M_X8_message) 23 = k_X8_message_23 := rfl
theorem sk_X8_message_35 : sm_seek (mP M_X8_message) 35 = k_X8_message_35 := rfl
theorem sk_X8_message_73 : sm_seek (mP M_X8_message) 73 = k_X8_message_73 := rfl
theorem sk_X8_message_100 : sm_seek (mP M_X8_message) 100 = k_X8_message_100 := rfl
theorem sk_X8_message_106 : sm_seek (mP M_X8_message) 106 = k_X8_message_106 := rfl
theorem sk_X8_message_112 : sm_seek (mP M_X8_message) 112 = k_X8_message_112 := rfl
theorem sk_X8_message_124 : sm_seek (mP M_X8_message) 124 = k_X8_message_124 := rfl
theorem sk_X8_message_132 : sm_seek (mP M_X8_message) 132 = k_X8_message_132 := rfl
theorem sk_X8_message_133 : sm_seek (mP M_X8_message) 133 = k_X8_message_133 := rfl
theorem sk_X8_message_145 : sm_seek (mP M_X8_message) 145 = k_X8_message_145 := rfl
theorem sk_X8_message_153 : sm_seek (mP M_X8_message) 153 = k_X8_message_153 := rfl
def k_X8_way_11 : List Ent := (11, .aload_n 0, 1, 0, 0, 0) :: (12, .iload_n 1, 1, 0, 0, 0) :: (13, .iload_n 2, 1, 0, 0, 0) :: (14, .invokevirtual 71, 3, 67, 0, 0) :: (17, .getfield 75, 3, 8, 224, 1) :: (20, .invokevirtual 114, 3, 131, 0, 0) :: (23, .ireturn, 1, 0, 0, 0) :: []
def k_X8_way_0 : List Ent := (0, .iload_n 1, 1, 0, 0, 0) :: (1, .iload_n 2, 1, 0, 0, 0) :: (2, .invokestatic 188, 3, 64, 0, 2) :: (5, .ifCond .ne 6, 3, 11, 0, 0) :: (8, .bipush (-2), 2, 2, 1, 0) :: (10, .ireturn, 1, 0, 0, 0) :: k_X8_way_11
def M_X8_way : MI := (yX8_way, cX8_way, 3, (some .int), 2, 41, 8, 3, 10, k_X8_way_0)
theorem sk_X8_way_11 : sm_seek (mP M_X8_way) 11 = k_X8_way_11 := rfl
def k_X8_isReplica_14 : List Ent := (14, .ireturn, 1, 0, 0, 0) :: []
def k_X8_isReplica_13 : List Ent := (13, .iconst 0, 1, 0, 0, 0) :: k_X8_isReplica_14
def k_X8_isReplica_0 : List Ent := (0, .iload_n 0, 1, 0, 0, 0) :: (1, .ifCond .lt 12, 3, 13, 0, 0) :: (4, .iload_n 0, 1, 0, 0, 0) :: (5, .iconst 4, 1, 4, 0, 0) :: (6, .if_icmp .ge 7, 3, 13, 0, 0) :: (9, .iconst 1, 1, 1, 0, 0) :: (10, .goto 4, 3, 14, 0, 0) :: k_X8_isReplica_13
def M_X8_isReplica : MI := (yX8_isReplica, cX8_isReplica, 1, (some .boolean), 0, 0, 8, 1, 0, k_X8_isReplica_0)
theorem sk_X8_isReplica_13 : sm_seek (mP M_X8_isReplica) 13 = k_X8_isReplica_13 := rfl
theorem sk_X8_isReplica_14 : sm_seek (mP M_X8_isReplica) 14 = k_X8_isReplica_14 := rfl
def k_X8_isOfPair_14 : List Ent := (14, .ireturn, 1, 0, 0, 0) :: []
def k_X8_isOfPair_13 : List Ent := (13, .iconst 0, 1, 0, 0, 0) :: k_X8_isOfPair_14
def k_X8_isOfPair_0 : List Ent := (0, .iload_n 0, 1, 0, 0, 0) :: (1, .ifCond .lt 12, 3, 13, 0, 0) :: (4, .iload_n 0, 1, 0, 0, 0) :: (5, .iconst 2, 1, 2, 0, 0) :: (6, .if_icmp .ge 7, 3, 13, 0, 0) :: (9, .iconst 1, 1, 1, 0, 0) :: (10, .goto 4, 3, 14, 0, 0) :: k_X8_isOfPair_13
def M_X8_isOfPair : MI := (yX8_isOfPair, cX8_isOfPair, 1, (some .boolean), 0, 0, 8, 1, 0, k_X8_isOfPair_0)
theorem sk_X8_isOfPair_13 : sm_seek (mP M_X8_isOfPair) 13 = k_X8_isOfPair_13 := rfl
theorem sk_X8_isOfPair_14 : sm_seek (mP M_X8_isOfPair) 14 = k_X8_isOfPair_14 := rfl
def k_X8_isElement_15 : List Ent := (15, .ireturn, 1, 0, 0, 0) :: []
def k_X8_isElement_14 : List Ent := (14, .iconst 0, 1, 0, 0, 0) :: k_X8_isElement_15
def k_X8_isElement_0 : List Ent := (0, .iload_n 0, 1, 0, 0, 0) :: (1, .ifCond .lt 13, 3, 14, 0, 0) :: (4, .iload_n 0, 1, 0, 0, 0) :: (5, .bipush 32, 2, 32, 0, 0) :: (7, .if_icmp .ge 7, 3, 14, 0, 0) :: (10, .iconst 1, 1, 1, 0, 0) :: (11, .goto 4, 3, 15, 0, 0) :: k_X8_isElement_14
def M_X8_isElement : MI := (yX8_isElement, cX8_isElement, 1, (some .boolean), 0, 0, 8, 1, 0, k_X8_isElement_0)
theorem sk_X8_isElement_14 : sm_seek (mP M_X8_isElement) 14 = k_X8_isElement_14 := rfl
theorem sk_X8_isElement_15 : sm_seek (mP M_X8_isElement) 15 = k_X8_isElement_15 := rfl
def k_X8_isCharacter_16 : List Ent := (16, .ireturn, 1, 0, 0, 0) :: []
def k_X8_isCharacter_15 : List Ent := (15, .iconst 0, 1, 0, 0, 0) :: k_X8_isCharacter_16
def k_X8_isCharacter_0 : List Ent := (0, .iload_n 0, 1, 0, 0, 0) :: (1, .iconst 1, 1, 1, 0, 0) :: (2, .if_icmp .lt 13, 3, 15, 0, 0) :: (5, .iload_n 0, 1, 0, 0, 0) :: (6, .bipush 127, 2, 127, 0, 0) :: (8, .if_icmp .gt 7, 3, 15, 0, 0) :: (11, .iconst 1, 1, 1, 0, 0) :: (12, .goto 4, 3, 16, 0, 0) :: k_X8_isCharacter_15
def M_X8_isCharacter : MI := (yX8_isCharacter, cX8_isCharacter, 1, (some .boolean), 0, 0, 8, 1, 0, k_X8_isCharacter_0)
theorem sk_X8_isCharacter_15 : sm_seek (mP M_X8_isCharacter) 15 = k_X8_isCharacter_15 := rfl
theorem sk_X8_isCharacter_16 : sm_seek (mP M_X8_isCharacter) 16 = k_X8_isCharacter_16 := rfl
def k_X8_isWay_24 : List Ent := (24, .ireturn, 1, 0, 0, 0) :: []
def k_X8_isWay_23 : List Ent := (23, .iconst 0, 1, 0, 0, 0) :: k_X8_isWay_24
def k_X8_isWay_0 : List Ent := (0, .iload_n 0, 1, 0, 0, 0) :: (1, .invokestatic 25, 3, 60, 0, 2) :: (4, .ifCond .eq 19, 3, 23, 0, 0) :: (7, .iload_n 1, 1, 0, 0, 0) :: (8, .invokestatic 25, 3, 60, 0, 2) :: (11, .ifCond .eq 12, 3, 23, 0, 0) :: (14, .iload_n 0, 1, 0, 0, 0) :: (15, .iload_n 1, 1, 0, 0, 0) :: (16, .if_icmp .eq 7, 3, 23, 0, 0) :: (19, .iconst 1, 1, 1, 0, 0) :: (20, .goto 4, 3, 24, 0, 0) :: k_X8_isWay_23
def M_X8_isWay : MI := (yX8_isWay, cX8_isWay, 2, (some .boolean), 1, 20, 8, 2, 0, k_X8_isWay_0)
theorem sk_X8_isWay_23 : sm_seek (mP M_X8_isWay) 23 = k_X8_isWay_23 := rfl
theorem sk_X8_isWay_24 : sm_seek (mP M_X8_isWay) 24 = k_X8_isWay_24 := rfl
def k_X8_oneIf_9 : List Ent := (9, .ireturn, 1, 0, 0, 0) :: []
def k_X8_oneIf_8 : List Ent := (8, .iconst 0, 1, 0, 0, 0) :: k_X8_oneIf_9
def k_X8_oneIf_0 : List Ent := (0, .iload_n 0, 1, 0, 0, 0) :: (1, .ifCond .eq 7, 3, 8, 0, 0) :: (4, .iconst 1, 1, 1, 0, 0) :: (5, .goto 4, 3, 9, 0, 0) :: k_X8_oneIf_8
def M_X8_oneIf : MI := (yX8_oneIf, cX8_oneIf, 1, (some .int), 0, 0, 8, 1, 0, k_X8_oneIf_0)
theorem sk_X8_oneIf_8 : sm_seek (mP M_X8_oneIf) 8 = k_X8_oneIf_8 := rfl
theorem sk_X8_oneIf_9 : sm_seek (mP M_X8_oneIf) 9 = k_X8_oneIf_9 := rfl
def k_X8_isOnWay_33 : List Ent := (33, .ireturn, 1, 0, 0, 0) :: []
def k_X8_isOnWay_32 : List Ent := (32, .iconst 0, 1, 0, 0, 0) :: k_X8_isOnWay_33
def k_X8_isOnWay_0 : List Ent := (0, .iload_n 1, 1, 0, 0, 0) :: (1, .iload_n 2, 1, 0, 0, 0) :: (2, .invokestatic 188, 3, 64, 0, 2) :: (5, .ifCond .eq 27, 3, 32, 0, 0) :: (8, .iload_n 3, 1, 0, 0, 0) :: (9, .ifCond .lt 23, 3, 32, 0, 0) :: (12, .iload_n 3, 1, 0, 0, 0) :: (13, .aload_n 0, 1, 0, 0, 0) :: (14, .iload_n 1, 1, 0, 0, 0) :: (15, .iload_n 2, 1, 0, 0, 0) :: (16, .invokevirtual 71, 3, 67, 0, 0) :: (19, .getfield 75, 3, 8, 224, 1) :: (22, .invokevirtual 114, 3, 131, 0, 0) :: (25, .if_icmp .ge 7, 3, 32, 0, 0) :: (28, .iconst 1, 1, 1, 0, 0) :: (29, .goto 4, 3, 33, 0, 0) :: k_X8_isOnWay_32
def M_X8_isOnWay : MI := (yX8_isOnWay, cX8_isOnWay, 4, (some .boolean), 2, 41, 8, 4, 10, k_X8_isOnWay_0)
theorem sk_X8_isOnWay_32 : sm_seek (mP M_X8_isOnWay) 32 = k_X8_isOnWay_32 := rfl
theorem sk_X8_isOnWay_33 : sm_seek (mP M_X8_isOnWay) 33 = k_X8_isOnWay_33 := rfl
def k_X8_wayBetween_0 : List Ent := (0, .aload_n 0, 1, 0, 0, 0) :: (1, .getfield 17, 3, 9, 257, 1) :: (4, .iload_n 1, 1, 0, 0, 0) :: (5, .iconst 4, 1, 4, 0, 0) :: (6, .imul, 1, 0, 0, 0) :: (7, .iload_n 2, 1, 0, 0, 0) :: (8, .iadd, 1, 0, 0, 0) :: (9, .aaload, 1, 0, 0, 0) :: (10, .areturn, 1, 0, 0, 0) :: []
def M_X8_wayBetween : MI := (yX8_wayBetween, cX8_wayBetween, 3, (some (.object "ReplicaStore$Way")), 0, 0, 8, 3, 10, k_X8_wayBetween_0)
def k_X8_operate_78 : List Ent := (78, .aload 4, 2, 0, 0, 0) :: (80, .getfield 185, 3, 5, 130, 0) :: (83, .ireturn, 1, 0, 0, 0) :: []
def k_X8_operate_72 : List Ent := (72, .iinc 6 1, 3, 1, 0, 0) :: (75, .goto (-27), 3, 48, 0, 0) :: k_X8_operate_78
def k_X8_operate_48 : List Ent := (48, .iload 6, 2, 0, 0, 0) :: (50, .iconst 4, 1, 4, 0, 0) :: (51, .if_icmp .ge 27, 3, 78, 0, 0) :: (54, .iload 6, 2, 0, 0, 0) :: (56, .iload_n 1, 1, 0, 0, 0) :: (57, .if_icmp .eq 15, 3, 72, 0, 0) :: (60, .aload_n 0, 1, 0, 0, 0) :: (61, .iload_n 1, 1, 0, 0, 0) :: (62, .iload 6, 2, 0, 0, 0) :: (64, .invokevirtual 71, 3, 67, 0, 0) :: (67, .aload 5, 2, 0, 0, 0) :: (69, .invokevirtual 110, 3, 35, 0, 0) :: k_X8_operate_72
def k_X8_operate_27 : List Ent := (27, .aload_n 3, 1, 0, 0, 0) :: (28, .aload_n 2, 1, 0, 0, 0) :: (29, .invokevirtual 202, 3, 14, 0, 0) :: (32, .astore 4, 2, 0, 0, 0) :: (34, .new 85, 3, 4, 4, 0) :: (37, .dup, 1, 0, 0, 0) :: (38, .aload 4, 2, 0, 0, 0) :: (40, .invokespecial 206, 3, 5, 0, 1) :: (43, .astore 5, 2, 0, 0, 0) :: (45, .iconst 0, 1, 0, 0, 0) :: (46, .istore 6, 2, 0, 0, 0) :: k_X8_operate_48
def k_X8_operate_17 : List Ent := (17, .aload_n 3, 1, 0, 0, 0) :: (18, .invokevirtual 199, 3, 11, 0, 0) :: (21, .ifCond .eq 6, 3, 27, 0, 0) :: (24, .bipush (-3), 2, 3, 1, 0) :: (26, .ireturn, 1, 0, 0, 0) :: k_X8_operate_27
def k_X8_operate_0 : List Ent := (0, .aload_n 0, 1, 0, 0, 0) :: (1, .getfield 11, 3, 9, 256, 1) :: (4, .iload_n 1, 1, 0, 0, 0) :: (5, .aaload, 1, 0, 0, 0) :: (6, .astore_n 3, 1, 0, 0, 0) :: (7, .aload_n 3, 1, 0, 0, 0) :: (8, .getfield 67, 3, 6, 169, 2) :: (11, .ifCond .ne 6, 3, 17, 0, 0) :: (14, .bipush (-4), 2, 4, 1, 0) :: (16, .ireturn, 1, 0, 0, 0) :: k_X8_operate_17
def M_X8_operate : MI := (yX8_operate, cX8_operate, 7, (some .int), 10, 226, 8, 3, 10, k_X8_operate_0)
theorem sk_X8_operate_17 : sm_seek (mP M_X8_operate) 17 = k_X8_operate_17 := rfl
theorem sk_X8_operate_27 : sm_seek (mP M_X8_operate) 27 = k_X8_operate_27 := rfl
theorem sk_X8_operate_48 : sm_seek (mP M_X8_operate) 48 = k_X8_operate_48 := rfl
theorem sk_X8_operate_72 : sm_seek (mP M_X8_operate) 72 = k_X8_operate_72 := rfl
theorem sk_X8_operate_78 : sm_seek (mP M_X8_operate) 78 = k_X8_operate_78 := rfl
def k_X8_sendClock_45 : List Ent := (45, .aload 4, 2, 0, 0, 0) :: (47, .new 85, 3, 4, 4, 0) :: (50, .dup, 1, 0, 0, 0) :: (51, .iload_n 3, 1, 0, 0, 0) :: (52, .iload_n 1, 1, 0, 0, 0) :: (53, .aload_n 0, 1, 0, 0, 0) :: (54, .getfield 11, 3, 9, 256, 1) :: (57, .iload_n 1, 1, 0, 0, 0) :: (58, .aaload, 1, 0, 0, 0) :: (59, .invokevirtual 209, 3, 12, 0, 0) :: (62, .invokespecial 213, 3, 6, 0, 1) :: (65, .invokevirtual 110, 3, 35, 0, 0) :: (68, .aload 4, 2, 0, 0, 0) :: (70, .getfield 75, 3, 8, 224, 1) :: (73, .invokevirtual 114, 3, 131, 0, 0) :: (76, .ireturn, 1, 0, 0, 0) :: []
def k_X8_sendClock_26 : List Ent := (26, .aload_n 0, 1, 0, 0, 0) :: (27, .iload_n 1, 1, 0, 0, 0) :: (28, .iload_n 2, 1, 0, 0, 0) :: (29, .invokevirtual 71, 3, 67, 0, 0) :: (32, .astore 4, 2, 0, 0, 0) :: (34, .aload 4, 2, 0, 0, 0) :: (36, .invokevirtual 103, 3, 34, 0, 0) :: (39, .ifCond .eq 6, 3, 45, 0, 0) :: (42, .bipush (-3), 2, 3, 1, 0) :: (44, .ireturn, 1, 0, 0, 0) :: k_X8_sendClock_45
def k_X8_sendClock_11 : List Ent := (11, .aload_n 0, 1, 0, 0, 0) :: (12, .getfield 11, 3, 9, 256, 1) :: (15, .iload_n 1, 1, 0, 0, 0) :: (16, .aaload, 1, 0, 0, 0) :: (17, .getfield 67, 3, 6, 169, 2) :: (20, .ifCond .ne 6, 3, 26, 0, 0) :: (23, .bipush (-4), 2, 4, 1, 0) :: (25, .ireturn, 1, 0, 0, 0) :: k_X8_sendClock_26
def k_X8_sendClock_0 : List Ent := (0, .iload_n 1, 1, 0, 0, 0) :: (1, .iload_n 2, 1, 0, 0, 0) :: (2, .invokestatic 188, 3, 64, 0, 2) :: (5, .ifCond .ne 6, 3, 11, 0, 0) :: (8, .bipush (-2), 2, 2, 1, 0) :: (10, .ireturn, 1, 0, 0, 0) :: k_X8_sendClock_11
def M_X8_sendClock : MI := (yX8_sendClock, cX8_sendClock, 5, (some .int), 8, 181, 8, 4, 10, k_X8_sendClock_0)
theorem sk_X8_sendClock_11 : sm_seek (mP M_X8_sendClock) 11 = k_X8_sendClock_11 := rfl
theorem sk_X8_sendClock_26 : sm_seek (mP M_X8_sendClock) 26 = k_X8_sendClock_26 := rfl
theorem sk_X8_sendClock_45 : sm_seek (mP M_X8_sendClock) 45 = k_X8_sendClock_45 := rfl
def k_X8_answer_84 : List Ent := (84, .aload 5, 2, 0, 0, 0) :: (86, .new 85, 3, 4, 4, 0) :: (89, .dup, 1, 0, 0, 0) :: (90, .iconst 1, 1, 1, 0, 0) :: (91, .iload_n 1, 1, 0, 0, 0) :: (92, .aload 4, 2, 0, 0, 0) :: (94, .invokevirtual 209, 3, 12, 0, 0) :: (97, .invokespecial 213, 3, 6, 0, 1) :: (100, .invokevirtual 110, 3, 35, 0, 0) :: (103, .return_, 1, 0, 0, 0) :: []
def k_X8_answer_78 : List Ent := (78, .iinc 6 1, 3, 1, 0, 0) :: (81, .goto (-62), 3, 19, 0, 0) :: k_X8_answer_84
def k_X8_answer_19 : List Ent := (19, .iload 6, 2, 0, 0, 0) :: (21, .aload 4, 2, 0, 0, 0) :: (23, .getfield 170, 3, 6, 166, 1) :: (26, .invokevirtual 114, 3, 131, 0, 0) :: (29, .if_icmp .ge 55, 3, 84, 0, 0) :: (32, .aload 5, 2, 0, 0, 0) :: (34, .invokevirtual 103, 3, 34, 0, 0) :: (37, .ifCond .ne 47, 3, 84, 0, 0) :: (40, .aload 4, 2, 0, 0, 0) :: (42, .getfield 170, 3, 6, 166, 1) :: (45, .iload 6, 2, 0, 0, 0) :: (47, .invokevirtual 107, 3, 134, 0, 0) :: (50, .checkcast 144, 3, 5, 0, 0) :: (53, .astore 7, 2, 0, 0, 0) :: (55, .aload_n 3, 1, 0, 0, 0) :: (56, .aload 7, 2, 0, 0, 0) :: (58, .invokevirtual 215, 3, 2, 0, 0) :: (61, .ifCond .ne 17, 3, 78, 0, 0) :: (64, .aload 5, 2, 0, 0, 0) :: (66, .new 85, 3, 4, 4, 0) :: (69, .dup, 1, 0, 0, 0) :: (70, .aload 7, 2, 0, 0, 0) :: (72, .invokespecial 206, 3, 5, 0, 1) :: (75, .invokevirtual 110, 3, 35, 0, 0) :: k_X8_answer_78
def k_X8_answer_0 : List Ent := (0, .aload_n 0, 1, 0, 0, 0) :: (1, .getfield 11, 3, 9, 256, 1) :: (4, .iload_n 1, 1, 0, 0, 0) :: (5, .aaload, 1, 0, 0, 0) :: (6, .astore 4, 2, 0, 0, 0) :: (8, .aload_n 0, 1, 0, 0, 0) :: (9, .iload_n 1, 1, 0, 0, 0) :: (10, .iload_n 2, 1, 0, 0, 0) :: (11, .invokevirtual 71, 3, 67, 0, 0) :: (14, .astore 5, 2, 0, 0, 0) :: (16, .iconst 0, 1, 0, 0, 0) :: (17, .istore 6, 2, 0, 0, 0) :: k_X8_answer_19
def M_X8_answer : MI := (yX8_answer, cX8_answer, 8, none, 8, 181, 8, 4, 10, k_X8_answer_0)
theorem sk_X8_answer_19 : sm_seek (mP M_X8_answer) 19 = k_X8_answer_19 := rfl
theorem sk_X8_answer_78 : sm_seek (mP M_X8_answer) 78 = k_X8_answer_78 := rfl
theorem sk_X8_answer_84 : sm_seek (mP M_X8_answer) 84 = k_X8_answer_84 := rfl
def k_X9_init_0 : List Ent := (0, .aload_n 0, 1, 0, 0, 0) :: (1, .invokespecial 1, 3, 1000, 0, 1) :: (4, .aload_n 0, 1, 0, 0, 0) :: (5, .iconst 4, 1, 4, 0, 0) :: (6, .newarray .int, 2, 20, 0, 0) :: (8, .putfield 7, 3, 10, 288, 1) :: (11, .aload_n 0, 1, 0, 0, 0) :: (12, .sipush 240, 3, 240, 0, 0) :: (15, .newarray .int, 2, 20, 0, 0) :: (17, .putfield 13, 3, 10, 289, 1) :: (20, .aload_n 0, 1, 0, 0, 0) :: (21, .sipush 240, 3, 240, 0, 0) :: (24, .newarray .int, 2, 20, 0, 0) :: (26, .putfield 16, 3, 10, 290, 1) :: (29, .aload_n 0, 1, 0, 0, 0) :: (30, .sipush 240, 3, 240, 0, 0) :: (33, .newarray .int, 2, 20, 0, 0) :: (35, .putfield 19, 3, 10, 291, 1) :: (38, .aload_n 0, 1, 0, 0, 0) :: (39, .sipush 240, 3, 240, 0, 0) :: (42, .newarray .int, 2, 20, 0, 0) :: (44, .putfield 22, 3, 10, 292, 1) :: (47, .aload_n 0, 1, 0, 0, 0) :: (48, .sipush 240, 3, 240, 0, 0) :: (51, .newarray .int, 2, 20, 0, 0) :: (53, .putfield 25, 3, 10, 293, 1) :: (56, .aload_n 0, 1, 0, 0, 0) :: (57, .sipush 960, 3, 960, 0, 0) :: (60, .newarray .int, 2, 20, 0, 0) :: (62, .putfield 28, 3, 10, 294, 1) :: (65, .aload_n 0, 1, 0, 0, 0) :: (66, .iconst 4, 1, 4, 0, 0) :: (67, .newarray .boolean, 2, 21, 0, 0) :: (69, .dup, 1, 0, 0, 0) :: (70, .iconst 0, 1, 0, 0, 0) :: (71, .iconst 1, 1, 1, 0, 0) :: (72, .bastore, 1, 0, 0, 0) :: (73, .dup, 1, 0, 0, 0) :: (74, .iconst 1, 1, 1, 0, 0) :: (75, .iconst 1, 1, 1, 0, 0) :: (76, .bastore, 1, 0, 0, 0) :: (77, .dup, 1, 0, 0, 0) :: (78, .iconst 2, 1, 2, 0, 0) :: (79, .iconst 1, 1, 1, 0, 0) :: (80, .bastore, 1, 0, 0, 0) :: (81, .dup, 1, 0, 0, 0) :: (82, .iconst 3, 1, 3, 0, 0) :: (83, .iconst 1, 1, 1, 0, 0) :: (84, .bastore, 1, 0, 0, 0) :: (85, .putfield 31, 3, 10, 295, 1) :: (88, .aload_n 0, 1, 0, 0, 0) :: (89, .bipush 16, 2, 16, 0, 0) :: (91, .newarray .int, 2, 20, 0, 0) :: (93, .putfield 35, 3, 10, 296, 1) :: (96, .aload_n 0, 1, 0, 0, 0) :: (97, .iconst 4, 1, 4, 0, 0) :: (98, .newarray .int, 2, 20, 0, 0) :: (100, .putfield 38, 3, 10, 297, 1) :: (103, .aload_n 0, 1, 0, 0, 0) :: (104, .iconst 4, 1, 4, 0, 0) :: (105, .newarray .int, 2, 20, 0, 0) :: (107, .putfield 41, 3, 10, 298, 1) :: (110, .aload_n 0, 1, 0, 0, 0) :: (111, .sipush 960, 3, 960, 0, 0) :: (114, .newarray .int, 2, 20, 0, 0) :: (116, .putfield 44, 3, 10, 299, 1) :: (119, .aload_n 0, 1, 0, 0, 0) :: (120, .sipush 960, 3, 960, 0, 0) :: (123, .newarray .boolean, 2, 21, 0, 0) :: (125, .putfield 47, 3, 10, 300, 1) :: (128, .aload_n 0, 1, 0, 0, 0) :: (129, .iconst 4, 1, 4, 0, 0) :: (130, .newarray .int, 2, 20, 0, 0) :: (132, .putfield 50, 3, 10, 301, 1) :: (135, .aload_n 0, 1, 0, 0, 0) :: (136, .sipush 960, 3, 960, 0, 0) :: (139, .newarray .int, 2, 20, 0, 0) :: (141, .putfield 53, 3, 10, 302, 1) :: (144, .aload_n 0, 1, 0, 0, 0) :: (145, .bipush 64, 2, 64, 0, 0) :: (147, .newarray .int, 2, 20, 0, 0) :: (149, .putfield 56, 3, 10, 303, 1) :: (152, .aload_n 0, 1, 0, 0, 0) :: (153, .bipush 16, 2, 16, 0, 0) :: (155, .newarray .int, 2, 20, 0, 0) :: (157, .putfield 59, 3, 10, 304, 1) :: (160, .aload_n 0, 1, 0, 0, 0) :: (161, .sipush 480, 3, 480, 0, 0) :: (164, .newarray .int, 2, 20, 0, 0) :: (166, .putfield 62, 3, 10, 305, 1) :: (169, .aload_n 0, 1, 0, 0, 0) :: (170, .sipush 480, 3, 480, 0, 0) :: (173, .newarray .int, 2, 20, 0, 0) :: (175, .putfield 65, 3, 10, 306, 1) :: (178, .aload_n 0, 1, 0, 0, 0) :: (179, .sipush 1920, 3, 1920, 0, 0) :: (182, .newarray .int, 2, 20, 0, 0) :: (184, .putfield 68, 3, 10, 307, 1) :: (187, .aload_n 0, 1, 0, 0, 0) :: (188, .sipush 240, 3, 240, 0, 0) :: (191, .newarray .int, 2, 20, 0, 0) :: (193, .putfield 71, 3, 10, 308, 1) :: (196, .aload_n 0, 1, 0, 0, 0) :: (197, .sipush 480, 3, 480, 0, 0) :: (200, .newarray .int, 2, 20, 0, 0) :: (202, .putfield 74, 3, 10, 310, 1) :: (205, .aload_n 0, 1, 0, 0, 0) :: (206, .iconst 4, 1, 4, 0, 0) :: (207, .newarray .int, 2, 20, 0, 0) :: (209, .putfield 77, 3, 10, 311, 1) :: (212, .aload_n 0, 1, 0, 0, 0) :: (213, .iconst 0, 1, 0, 0, 0) :: (214, .putfield 80, 3, 10, 309, 0) :: (217, .return_, 1, 0, 0, 0) :: []
def M_X9_init : MI := (yX9_init, cX9_init, 1, none, 1, 28, 9, 1, 1, k_X9_init_0)
def k_X9_in_15 : List Ent := (15, .ireturn, 1, 0, 0, 0) :: []
def k_X9_in_14 : List Ent := (14, .iconst 0, 1, 0, 0, 0) :: k_X9_in_15
def k_X9_in_0 : List Ent := (0, .iload_n 0, 1, 0, 0, 0) :: (1, .iload_n 1, 1, 0, 0, 0) :: (2, .if_icmp .lt 12, 3, 14, 0, 0) :: (5, .iload_n 0, 1, 0, 0, 0) :: (6, .iload_n 2, 1, 0, 0, 0) :: (7, .if_icmp .gt 7, 3, 14, 0, 0) :: (10, .iconst 1, 1, 1, 0, 0) :: (11, .goto 4, 3, 15, 0, 0) :: k_X9_in_14
def M_X9_in : MI := (yX9_in, cX9_in, 3, (some .boolean), 0, 0, 9, 3, 0, k_X9_in_0)
theorem sk_X9_in_14 : sm_seek (mP M_X9_in) 14 = k_X9_in_14 := rfl
theorem sk_X9_in_15 : sm_seek (mP M_X9_in) 15 = k_X9_in_15 := rfl
def k_X9_isReplica_0 : List Ent := (0, .iload_n 0, 1, 0, 0, 0) :: (1, .iconst 0, 1, 0, 0, 0) :: (2, .iconst 3, 1, 3, 0, 0) :: (3, .invokestatic 84, 3, 72, 0, 2) :: (6, .ireturn, 1, 0, 0, 0) :: []
def M_X9_isReplica : MI := (yX9_isReplica, cX9_isReplica, 1, (some .boolean), 1, 22, 9, 1, 0, k_X9_isReplica_0)
def k_X9_isTwo_0 : List Ent := (0, .iload_n 0, 1, 0, 0, 0) :: (1, .iconst 0, 1, 0, 0, 0) :: (2, .iconst 1, 1, 1, 0, 0) :: (3, .invokestatic 84, 3, 72, 0, 2) :: (6, .ireturn, 1, 0, 0, 0) :: []
def M_X9_isTwo : MI := (yX9_isTwo, cX9_isTwo, 1, (some .boolean), 1, 22, 9, 1, 0, k_X9_isTwo_0)
def k_X9_ownerOf_0 : List Ent := (0, .iload_n 0, 1, 0, 0, 0) :: (1, .bipush 60, 2, 60, 0, 0) :: (3, .idiv, 1, 0, 0, 0) :: (4, .ireturn, 1, 0, 0, 0) :: []
def M_X9_ownerOf : MI := (yX9_ownerOf, cX9_ownerOf, 1, (some .int), 0, 0, 9, 1, 0, k_X9_ownerOf_0)
def k_X9_numberOf_0 : List Ent := (0, .iload_n 0, 1, 0, 0, 0) :: (1, .bipush 60, 2, 60, 0, 0) :: (3, .irem, 1, 0, 0, 0) :: (4, .iconst 1, 1, 1, 0, 0) :: (5, .iadd, 1, 0, 0, 0) :: (6, .ireturn, 1, 0, 0, 0) :: []
def M_X9_numberOf : MI := (yX9_numberOf, cX9_numberOf, 1, (some .int), 0, 0, 9, 1, 0, k_X9_numberOf_0)
def k_X9_isBefore_30 : List Ent := (30, .ireturn, 1, 0, 0, 0) :: []
def k_X9_isBefore_29 : List Ent := (29, .iconst 0, 1, 0, 0, 0) :: k_X9_isBefore_30
def k_X9_isBefore_0 : List Ent := (0, .iload_n 1, 1, 0, 0, 0) :: (1, .iload_n 2, 1, 0, 0, 0) :: (2, .if_icmp .eq 27, 3, 29, 0, 0) :: (5, .aload_n 0, 1, 0, 0, 0) :: (6, .getfield 28, 3, 10, 294, 1) :: (9, .iconst 4, 1, 4, 0, 0) :: (10, .iload_n 2, 1, 0, 0, 0) :: (11, .imul, 1, 0, 0, 0) :: (12, .iload_n 1, 1, 0, 0, 0) :: (13, .invokestatic 88, 3, 75, 0, 2) :: (16, .iadd, 1, 0, 0, 0) :: (17, .iaload, 1, 0, 0, 0) :: (18, .iload_n 1, 1, 0, 0, 0) :: (19, .invokestatic 92, 3, 76, 0, 2) :: (22, .if_icmp .lt 7, 3, 29, 0, 0) :: (25, .iconst 1, 1, 1, 0, 0) :: (26, .goto 4, 3, 30, 0, 0) :: k_X9_isBefore_29
def M_X9_isBefore : MI := (yX9_isBefore, cX9_isBefore, 3, (some .boolean), 1, 20, 9, 3, 11, k_X9_isBefore_0)
theorem sk_X9_isBefore_29 : sm_seek (mP M_X9_isBefore) 29 = k_X9_isBefore_29 := rfl
theorem sk_X9_isBefore_30 : sm_seek (mP M_X9_isBefore) 30 = k_X9_isBefore_30 := rfl
def k_X9_hasGreaterMark_54 : List Ent := (54, .ireturn, 1, 0, 0, 0) :: []
def k_X9_hasGreaterMark_53 : List Ent := (53, .iconst 0, 1, 0, 0, 0) :: k_X9_hasGreaterMark_54
def k_X9_hasGreaterMark_38 : List Ent := (38, .iload_n 1, 1, 0, 0, 0) :: (39, .invokestatic 88, 3, 75, 0, 2) :: (42, .iload_n 2, 1, 0, 0, 0) :: (43, .invokestatic 88, 3, 75, 0, 2) :: (46, .if_icmp .le 7, 3, 53, 0, 0) :: (49, .iconst 1, 1, 1, 0, 0) :: (50, .goto 4, 3, 54, 0, 0) :: k_X9_hasGreaterMark_53
def k_X9_hasGreaterMark_34 : List Ent := (34, .iconst 0, 1, 0, 0, 0) :: (35, .goto 19, 3, 54, 0, 0) :: k_X9_hasGreaterMark_38
def k_X9_hasGreaterMark_0 : List Ent := (0, .aload_n 0, 1, 0, 0, 0) :: (1, .getfield 25, 3, 10, 293, 1) :: (4, .iload_n 1, 1, 0, 0, 0) :: (5, .iaload, 1, 0, 0, 0) :: (6, .aload_n 0, 1, 0, 0, 0) :: (7, .getfield 25, 3, 10, 293, 1) :: (10, .iload_n 2, 1, 0, 0, 0) :: (11, .iaload, 1, 0, 0, 0) :: (12, .if_icmp .eq 26, 3, 38, 0, 0) :: (15, .aload_n 0, 1, 0, 0, 0) :: (16, .getfield 25, 3, 10, 293, 1) :: (19, .iload_n 1, 1, 0, 0, 0) :: (20, .iaload, 1, 0, 0, 0) :: (21, .aload_n 0, 1, 0, 0, 0) :: (22, .getfield 25, 3, 10, 293, 1) :: (25, .iload_n 2, 1, 0, 0, 0) :: (26, .iaload, 1, 0, 0, 0) :: (27, .if_icmp .le 7, 3, 34, 0, 0) :: (30, .iconst 1, 1, 1, 0, 0) :: (31, .goto 23, 3, 54, 0, 0) :: k_X9_hasGreaterMark_34
def M_X9_hasGreaterMark : MI := (yX9_hasGreaterMark, cX9_hasGreaterMark, 3, (some .boolean), 1, 20, 9, 3, 11, k_X9_hasGreaterMark_0)
theorem sk_X9_hasGreaterMark_34 : sm_seek (mP M_X9_hasGreaterMark) 34 = k_X9_hasGreaterMark_34 := rfl
theorem sk_X9_hasGreaterMark_38 : sm_seek (mP M_X9_hasGreaterMark) 38 = k_X9_hasGreaterMark_38 := rfl
theorem sk_X9_hasGreaterMark_53 : sm_seek (mP M_X9_hasGreaterMark) 53 = k_X9_hasGreaterMark_53 := rfl
theorem sk_X9_hasGreaterMark_54 : sm_seek (mP M_X9_hasGreaterMark) 54 = k_X9_hasGreaterMark_54 := rfl
def k_X9_was_0 : List Ent := (0, .aload_n 0, 1, 0, 0, 0) :: (1, .getfield 47, 3, 10, 300, 1) :: (4, .sipush 240, 3, 240, 0, 0) :: (7, .iload_n 1, 1, 0, 0, 0) :: (8, .imul, 1, 0, 0, 0) :: (9, .iload_n 2, 1, 0, 0, 0) :: (10, .iadd, 1, 0, 0, 0) :: (11, .baload, 1, 0, 0, 0) :: (12, .ireturn, 1, 0, 0, 0) :: []
def M_X9_was : MI := (yX9_was, cX9_was, 3, (some .boolean), 0, 0, 9, 3, 11, k_X9_was_0)
def k_X9_doOperation_93 : List Ent := (93, .iastore, 1, 0, 0, 0) :: (94, .return_, 1, 0, 0, 0) :: []
def k_X9_doOperation_87 : List Ent := (87, .aload_n 0, 1, 0, 0, 0) :: (88, .getfield 38, 3, 10, 297, 1) :: (91, .iload_n 1, 1, 0, 0, 0) :: (92, .iaload, 1, 0, 0, 0) :: k_X9_doOperation_93
def k_X9_doOperation_0 : List Ent := (0, .aload_n 0, 1, 0, 0, 0) :: (1, .getfield 47, 3, 10, 300, 1) :: (4, .sipush 240, 3, 240, 0, 0) :: (7, .iload_n 1, 1, 0, 0, 0) :: (8, .imul, 1, 0, 0, 0) :: (9, .iload_n 2, 1, 0, 0, 0) :: (10, .iadd, 1, 0, 0, 0) :: (11, .iconst 1, 1, 1, 0, 0) :: (12, .bastore, 1, 0, 0, 0) :: (13, .aload_n 0, 1, 0, 0, 0) :: (14, .getfield 44, 3, 10, 299, 1) :: (17, .sipush 240, 3, 240, 0, 0) :: (20, .iload_n 1, 1, 0, 0, 0) :: (21, .imul, 1, 0, 0, 0) :: (22, .aload_n 0, 1, 0, 0, 0) :: (23, .getfield 41, 3, 10, 298, 1) :: (26, .iload_n 1, 1, 0, 0, 0) :: (27, .iaload, 1, 0, 0, 0) :: (28, .iadd, 1, 0, 0, 0) :: (29, .iload_n 2, 1, 0, 0, 0) :: (30, .iastore, 1, 0, 0, 0) :: (31, .aload_n 0, 1, 0, 0, 0) :: (32, .getfield 41, 3, 10, 298, 1) :: (35, .iload_n 1, 1, 0, 0, 0) :: (36, .dup2, 1, 0, 0, 0) :: (37, .iaload, 1, 0, 0, 0) :: (38, .iconst 1, 1, 1, 0, 0) :: (39, .iadd, 1, 0, 0, 0) :: (40, .iastore, 1, 0, 0, 0) :: (41, .aload_n 0, 1, 0, 0, 0) :: (42, .getfield 35, 3, 10, 296, 1) :: (45, .iconst 4, 1, 4, 0, 0) :: (46, .iload_n 1, 1, 0, 0, 0) :: (47, .imul, 1, 0, 0, 0) :: (48, .iload_n 2, 1, 0, 0, 0) :: (49, .invokestatic 88, 3, 75, 0, 2) :: (52, .iadd, 1, 0, 0, 0) :: (53, .dup2, 1, 0, 0, 0) :: (54, .iaload, 1, 0, 0, 0) :: (55, .iconst 1, 1, 1, 0, 0) :: (56, .iadd, 1, 0, 0, 0) :: (57, .iastore, 1, 0, 0, 0) :: (58, .aload_n 0, 1, 0, 0, 0) :: (59, .getfield 38, 3, 10, 297, 1) :: (62, .iload_n 1, 1, 0, 0, 0) :: (63, .aload_n 0, 1, 0, 0, 0) :: (64, .getfield 25, 3, 10, 293, 1) :: (67, .iload_n 2, 1, 0, 0, 0) :: (68, .iaload, 1, 0, 0, 0) :: (69, .aload_n 0, 1, 0, 0, 0) :: (70, .getfield 38, 3, 10, 297, 1) :: (73, .iload_n 1, 1, 0, 0, 0) :: (74, .iaload, 1, 0, 0, 0) :: (75, .if_icmp .le 12, 3, 87, 0, 0) :: (78, .aload_n 0, 1, 0, 0, 0) :: (79, .getfield 25, 3, 10, 293, 1) :: (82, .iload_n 2, 1, 0, 0, 0) :: (83, .iaload, 1, 0, 0, 0) :: (84, .goto 9, 3, 93, 0, 0) :: k_X9_doOperation_87
def M_X9_doOperation : MI := (yX9_doOperation, cX9_doOperation, 3, none, 1, 20, 9, 3, 11, k_X9_doOperation_0)
theorem sk_X9_doOperation_87 : sm_seek (mP M_X9_doOperation) 87 = k_X9_doOperation_87 := rfl
theorem sk_X9_doOperation_93 : sm_seek (mP M_X9_doOperation) 93 = k_X9_doOperation_93 := rfl
def k_X9_newOperation_173 : List Ent := (173, .aload_n 0, 1, 0, 0, 0) :: (174, .getfield 7, 3, 10, 288, 1) :: (177, .iload_n 1, 1, 0, 0, 0) :: (178, .iaload, 1, 0, 0, 0) :: (179, .ireturn, 1, 0, 0, 0) :: []
def k_X9_newOperation_167 : List Ent := (167, .iinc 7 1, 3, 1, 0, 0) :: (170, .goto (-24), 3, 146, 0, 0) :: k_X9_newOperation_173
def k_X9_newOperation_146 : List Ent := (146, .iload 7, 2, 0, 0, 0) :: (148, .iconst 4, 1, 4, 0, 0) :: (149, .if_icmp .ge 24, 3, 173, 0, 0) :: (152, .iload 7, 2, 0, 0, 0) :: (154, .iload_n 1, 1, 0, 0, 0) :: (155, .if_icmp .eq 12, 3, 167, 0, 0) :: (158, .aload_n 0, 1, 0, 0, 0) :: (159, .iload_n 1, 1, 0, 0, 0) :: (160, .iload 7, 2, 0, 0, 0) :: (162, .iload 6, 2, 0, 0, 0) :: (164, .invokevirtual 99, 3, 102, 0, 0) :: k_X9_newOperation_167
def k_X9_newOperation_143 : List Ent := (143, .iconst 0, 1, 0, 0, 0) :: (144, .istore 7, 2, 0, 0, 0) :: k_X9_newOperation_146
def k_X9_newOperation_108 : List Ent := (108, .iload 7, 2, 0, 0, 0) :: (110, .iconst 4, 1, 4, 0, 0) :: (111, .if_icmp .ge 32, 3, 143, 0, 0) :: (114, .aload_n 0, 1, 0, 0, 0) :: (115, .getfield 28, 3, 10, 294, 1) :: (118, .iconst 4, 1, 4, 0, 0) :: (119, .iload 6, 2, 0, 0, 0) :: (121, .imul, 1, 0, 0, 0) :: (122, .iload 7, 2, 0, 0, 0) :: (124, .iadd, 1, 0, 0, 0) :: (125, .aload_n 0, 1, 0, 0, 0) :: (126, .getfield 35, 3, 10, 296, 1) :: (129, .iconst 4, 1, 4, 0, 0) :: (130, .iload_n 1, 1, 0, 0, 0) :: (131, .imul, 1, 0, 0, 0) :: (132, .iload 7, 2, 0, 0, 0) :: (134, .iadd, 1, 0, 0, 0) :: (135, .iaload, 1, 0, 0, 0) :: (136, .iastore, 1, 0, 0, 0) :: (137, .iinc 7 1, 3, 1, 0, 0) :: (140, .goto (-32), 3, 108, 0, 0) :: k_X9_newOperation_143
def k_X9_newOperation_26 : List Ent := (26, .bipush 60, 2, 60, 0, 0) :: (28, .iload_n 1, 1, 0, 0, 0) :: (29, .imul, 1, 0, 0, 0) :: (30, .aload_n 0, 1, 0, 0, 0) :: (31, .getfield 7, 3, 10, 288, 1) :: (34, .iload_n 1, 1, 0, 0, 0) :: (35, .iaload, 1, 0, 0, 0) :: (36, .iadd, 1, 0, 0, 0) :: (37, .istore 6, 2, 0, 0, 0) :: (39, .aload_n 0, 1, 0, 0, 0) :: (40, .getfield 7, 3, 10, 288, 1) :: (43, .iload_n 1, 1, 0, 0, 0) :: (44, .dup2, 1, 0, 0, 0) :: (45, .iaload, 1, 0, 0, 0) :: (46, .iconst 1, 1, 1, 0, 0) :: (47, .iadd, 1, 0, 0, 0) :: (48, .iastore, 1, 0, 0, 0) :: (49, .aload_n 0, 1, 0, 0, 0) :: (50, .getfield 13, 3, 10, 289, 1) :: (53, .iload 6, 2, 0, 0, 0) :: (55, .iload_n 2, 1, 0, 0, 0) :: (56, .iastore, 1, 0, 0, 0) :: (57, .aload_n 0, 1, 0, 0, 0) :: (58, .getfield 16, 3, 10, 290, 1) :: (61, .iload 6, 2, 0, 0, 0) :: (63, .iload_n 3, 1, 0, 0, 0) :: (64, .iastore, 1, 0, 0, 0) :: (65, .aload_n 0, 1, 0, 0, 0) :: (66, .getfield 19, 3, 10, 291, 1) :: (69, .iload 6, 2, 0, 0, 0) :: (71, .iload 4, 2, 0, 0, 0) :: (73, .iastore, 1, 0, 0, 0) :: (74, .aload_n 0, 1, 0, 0, 0) :: (75, .getfield 22, 3, 10, 292, 1) :: (78, .iload 6, 2, 0, 0, 0) :: (80, .iload 5, 2, 0, 0, 0) :: (82, .iastore, 1, 0, 0, 0) :: (83, .aload_n 0, 1, 0, 0, 0) :: (84, .getfield 25, 3, 10, 293, 1) :: (87, .iload 6, 2, 0, 0, 0) :: (89, .aload_n 0, 1, 0, 0, 0) :: (90, .getfield 38, 3, 10, 297, 1) :: (93, .iload_n 1, 1, 0, 0, 0) :: (94, .iaload, 1, 0, 0, 0) :: (95, .iconst 1, 1, 1, 0, 0) :: (96, .iadd, 1, 0, 0, 0) :: (97, .iastore, 1, 0, 0, 0) :: (98, .aload_n 0, 1, 0, 0, 0) :: (99, .iload_n 1, 1, 0, 0, 0) :: (100, .iload 6, 2, 0, 0, 0) :: (102, .invokevirtual 95, 3, 80, 0, 0) :: (105, .iconst 0, 1, 0, 0, 0) :: (106, .istore 7, 2, 0, 0, 0) :: k_X9_newOperation_108
def k_X9_newOperation_12 : List Ent := (12, .aload_n 0, 1, 0, 0, 0) :: (13, .getfield 7, 3, 10, 288, 1) :: (16, .iload_n 1, 1, 0, 0, 0) :: (17, .iaload, 1, 0, 0, 0) :: (18, .bipush 60, 2, 60, 0, 0) :: (20, .if_icmp .ne 6, 3, 26, 0, 0) :: (23, .bipush (-3), 2, 3, 1, 0) :: (25, .ireturn, 1, 0, 0, 0) :: k_X9_newOperation_26
def k_X9_newOperation_0 : List Ent := (0, .aload_n 0, 1, 0, 0, 0) :: (1, .getfield 31, 3, 10, 295, 1) :: (4, .iload_n 1, 1, 0, 0, 0) :: (5, .baload, 1, 0, 0, 0) :: (6, .ifCond .ne 6, 3, 12, 0, 0) :: (9, .bipush (-4), 2, 4, 1, 0) :: (11, .ireturn, 1, 0, 0, 0) :: k_X9_newOperation_12
def M_X9_newOperation : MI := (yX9_newOperation, cX9_newOperation, 8, (some .int), 2, 52, 9, 6, 11, k_X9_newOperation_0)
theorem sk_X9_newOperation_12 : sm_seek (mP M_X9_newOperation) 12 = k_X9_newOperation_12 := rfl
theorem sk_X9_newOperation_26 : sm_seek (mP M_X9_newOperation) 26 = k_X9_newOperation_26 := rfl
theorem sk_X9_newOperation_108 : sm_seek (mP M_X9_newOperation) 108 = k_X9_newOperation_108 := rfl
theorem sk_X9_newOperation_143 : sm_seek (mP M_X9_newOperation) 143 = k_X9_newOperation_143 := rfl
theorem sk_X9_newOperation_146 : sm_seek (mP M_X9_newOperation) 146 = k_X9_newOperation_146 := rfl
theorem sk_X9_newOperation_167 : sm_seek (mP M_X9_newOperation) 167 = k_X9_newOperation_167 := rfl
theorem sk_X9_newOperation_173 : sm_seek (mP M_X9_newOperation) 173 = k_X9_newOperation_173 := rfl
def k_X9_add_28 : List Ent := (28, .ireturn, 1, 0, 0, 0) :: []
def k_X9_add_26 : List Ent := (26, .bipush (-2), 2, 2, 1, 0) :: k_X9_add_28
def k_X9_add_0 : List Ent := (0, .iload_n 1, 1, 0, 0, 0) :: (1, .invokestatic 103, 3, 73, 0, 2) :: (4, .ifCond .eq 22, 3, 26, 0, 0) :: (7, .iload_n 2, 1, 0, 0, 0) :: (8, .invokestatic 107, 3, 74, 0, 2) :: (11, .ifCond .eq 15, 3, 26, 0, 0) :: (14, .aload_n 0, 1, 0, 0, 0) :: (15, .iload_n 1, 1, 0, 0, 0) :: (16, .iconst 0, 1, 0, 0, 0) :: (17, .iload_n 2, 1, 0, 0, 0) :: (18, .iload_n 3, 1, 0, 0, 0) :: (19, .iconst (-1), 1, 1, 1, 0) :: (20, .invokevirtual 110, 3, 81, 0, 0) :: (23, .goto 5, 3, 28, 0, 0) :: k_X9_add_26
def M_X9_add : MI := (yX9_add, cX9_add, 4, (some .int), 3, 79, 9, 4, 11, k_X9_add_0)
theorem sk_X9_add_26 : sm_seek (mP M_X9_add) 26 = k_X9_add_26 := rfl
theorem sk_X9_add_28 : sm_seek (mP M_X9_add) 28 = k_X9_add_28 := rfl
def k_X9_isElement_29 : List Ent := (29, .ireturn, 1, 0, 0, 0) :: []
def k_X9_isElement_28 : List Ent := (28, .iconst 0, 1, 0, 0, 0) :: k_X9_isElement_29
def k_X9_isElement_0 : List Ent := (0, .iload_n 0, 1, 0, 0, 0) :: (1, .invokestatic 103, 3, 73, 0, 2) :: (4, .ifCond .eq 24, 3, 28, 0, 0) :: (7, .iload_n 1, 1, 0, 0, 0) :: (8, .invokestatic 107, 3, 74, 0, 2) :: (11, .ifCond .eq 17, 3, 28, 0, 0) :: (14, .iload_n 2, 1, 0, 0, 0) :: (15, .iconst 0, 1, 0, 0, 0) :: (16, .bipush 31, 2, 31, 0, 0) :: (18, .invokestatic 84, 3, 72, 0, 2) :: (21, .ifCond .eq 7, 3, 28, 0, 0) :: (24, .iconst 1, 1, 1, 0, 0) :: (25, .goto 4, 3, 29, 0, 0) :: k_X9_isElement_28
def M_X9_isElement : MI := (yX9_isElement, cX9_isElement, 3, (some .boolean), 2, 42, 9, 3, 0, k_X9_isElement_0)
theorem sk_X9_isElement_28 : sm_seek (mP M_X9_isElement) 28 = k_X9_isElement_28 := rfl
theorem sk_X9_isElement_29 : sm_seek (mP M_X9_isElement) 29 = k_X9_isElement_29 := rfl
def k_X9_put_23 : List Ent := (23, .ireturn, 1, 0, 0, 0) :: []
def k_X9_put_21 : List Ent := (21, .bipush (-2), 2, 2, 1, 0) :: k_X9_put_23
def k_X9_put_0 : List Ent := (0, .iload_n 1, 1, 0, 0, 0) :: (1, .iload_n 2, 1, 0, 0, 0) :: (2, .iload_n 3, 1, 0, 0, 0) :: (3, .invokestatic 114, 3, 83, 0, 2) :: (6, .ifCond .eq 15, 3, 21, 0, 0) :: (9, .aload_n 0, 1, 0, 0, 0) :: (10, .iload_n 1, 1, 0, 0, 0) :: (11, .iconst 1, 1, 1, 0, 0) :: (12, .iload_n 2, 1, 0, 0, 0) :: (13, .iload_n 3, 1, 0, 0, 0) :: (14, .iconst (-1), 1, 1, 1, 0) :: (15, .invokevirtual 110, 3, 81, 0, 0) :: (18, .goto 5, 3, 23, 0, 0) :: k_X9_put_21
def M_X9_put : MI := (yX9_put, cX9_put, 4, (some .int), 3, 79, 9, 4, 11, k_X9_put_0)
theorem sk_X9_put_21 : sm_seek (mP M_X9_put) 21 = k_X9_put_21 := rfl
theorem sk_X9_put_23 : sm_seek (mP M_X9_put) 23 = k_X9_put_23 := rfl
def k_X9_take_23 : List Ent := (23, .ireturn, 1, 0, 0, 0) :: []
def k_X9_take_21 : List Ent := (21, .bipush (-2), 2, 2, 1, 0) :: k_X9_take_23
def k_X9_take_0 : List Ent := (0, .iload_n 1, 1, 0, 0, 0) :: (1, .iload_n 2, 1, 0, 0, 0) :: (2, .iload_n 3, 1, 0, 0, 0) :: (3, .invokestatic 114, 3, 83, 0, 2) :: (6, .ifCond .eq 15, 3, 21, 0, 0) :: (9, .aload_n 0, 1, 0, 0, 0) :: (10, .iload_n 1, 1, 0, 0, 0) :: (11, .iconst 2, 1, 2, 0, 0) :: (12, .iload_n 2, 1, 0, 0, 0) :: (13, .iload_n 3, 1, 0, 0, 0) :: (14, .iconst (-1), 1, 1, 1, 0) :: (15, .invokevirtual 110, 3, 81, 0, 0) :: (18, .goto 5, 3, 23, 0, 0) :: k_X9_take_21
def M_X9_take : MI := (yX9_take, cX9_take, 4, (some .int), 3, 79, 9, 4, 11, k_X9_take_0)
theorem sk_X9_take_21 : sm_seek (mP M_X9_take) 21 = k_X9_take_21 := rfl
theorem sk_X9_take_23 : sm_seek (mP M_X9_take) 23 = k_X9_take_23 := rfl
def k_X9_write_28 : List Ent := (28, .ireturn, 1, 0, 0, 0) :: []
def k_X9_write_26 : List Ent := (26, .bipush (-2), 2, 2, 1, 0) :: k_X9_write_28
def k_X9_write_0 : List Ent := (0, .iload_n 1, 1, 0, 0, 0) :: (1, .invokestatic 103, 3, 73, 0, 2) :: (4, .ifCond .eq 22, 3, 26, 0, 0) :: (7, .iload_n 2, 1, 0, 0, 0) :: (8, .invokestatic 107, 3, 74, 0, 2) :: (11, .ifCond .eq 15, 3, 26, 0, 0) :: (14, .aload_n 0, 1, 0, 0, 0) :: (15, .iload_n 1, 1, 0, 0, 0) :: (16, .iconst 3, 1, 3, 0, 0) :: (17, .iload_n 2, 1, 0, 0, 0) :: (18, .iload_n 3, 1, 0, 0, 0) :: (19, .iconst (-1), 1, 1, 1, 0) :: (20, .invokevirtual 110, 3, 81, 0, 0) :: (23, .goto 5, 3, 28, 0, 0) :: k_X9_write_26
def M_X9_write : MI := (yX9_write, cX9_write, 4, (some .int), 3, 79, 9, 4, 11, k_X9_write_0)
theorem sk_X9_write_26 : sm_seek (mP M_X9_write) 26 = k_X9_write_26 := rfl
theorem sk_X9_write_28 : sm_seek (mP M_X9_write) 28 = k_X9_write_28 := rfl
def k_X9_insert_72 : List Ent := (72, .invokevirtual 110, 3, 81, 0, 0) :: (75, .ireturn, 1, 0, 0, 0) :: []
def k_X9_insert_64 : List Ent := (64, .aload_n 0, 1, 0, 0, 0) :: (65, .getfield 71, 3, 10, 308, 1) :: (68, .iload_n 3, 1, 0, 0, 0) :: (69, .iconst 1, 1, 1, 0, 0) :: (70, .isub, 1, 0, 0, 0) :: (71, .iaload, 1, 0, 0, 0) :: k_X9_insert_72
def k_X9_insert_50 : List Ent := (50, .aload_n 0, 1, 0, 0, 0) :: (51, .iload_n 1, 1, 0, 0, 0) :: (52, .iconst 4, 1, 4, 0, 0) :: (53, .iload_n 2, 1, 0, 0, 0) :: (54, .iload 4, 2, 0, 0, 0) :: (56, .iload_n 3, 1, 0, 0, 0) :: (57, .ifCond .ne 7, 3, 64, 0, 0) :: (60, .iconst (-1), 1, 1, 1, 0) :: (61, .goto 11, 3, 72, 0, 0) :: k_X9_insert_64
def k_X9_insert_28 : List Ent := (28, .aload_n 0, 1, 0, 0, 0) :: (29, .iload_n 1, 1, 0, 0, 0) :: (30, .iload_n 2, 1, 0, 0, 0) :: (31, .iconst 0, 1, 0, 0, 0) :: (32, .invokevirtual 117, 3, 96, 0, 0) :: (35, .iload_n 3, 1, 0, 0, 0) :: (36, .iconst 0, 1, 0, 0, 0) :: (37, .aload_n 0, 1, 0, 0, 0) :: (38, .getfield 80, 3, 10, 309, 0) :: (41, .invokestatic 84, 3, 72, 0, 2) :: (44, .ifCond .ne 6, 3, 50, 0, 0) :: (47, .bipush (-2), 2, 2, 1, 0) :: (49, .ireturn, 1, 0, 0, 0) :: k_X9_insert_50
def k_X9_insert_25 : List Ent := (25, .bipush (-2), 2, 2, 1, 0) :: (27, .ireturn, 1, 0, 0, 0) :: k_X9_insert_28
def k_X9_insert_0 : List Ent := (0, .iload_n 1, 1, 0, 0, 0) :: (1, .invokestatic 103, 3, 73, 0, 2) :: (4, .ifCond .eq 21, 3, 25, 0, 0) :: (7, .iload_n 2, 1, 0, 0, 0) :: (8, .invokestatic 107, 3, 74, 0, 2) :: (11, .ifCond .eq 14, 3, 25, 0, 0) :: (14, .iload 4, 2, 0, 0, 0) :: (16, .iconst 1, 1, 1, 0, 0) :: (17, .bipush 127, 2, 127, 0, 0) :: (19, .invokestatic 84, 3, 72, 0, 2) :: (22, .ifCond .ne 6, 3, 28, 0, 0) :: k_X9_insert_25
def M_X9_insert : MI := (yX9_insert, cX9_insert, 5, (some .int), 4, 94, 9, 5, 11, k_X9_insert_0)
theorem sk_X9_insert_25 : sm_seek (mP M_X9_insert) 25 = k_X9_insert_25 := rfl
theorem sk_X9_insert_28 : sm_seek (mP M_X9_insert) 28 = k_X9_insert_28 := rfl
theorem sk_X9_insert_50 : sm_seek (mP M_X9_insert) 50 = k_X9_insert_50 := rfl
theorem sk_X9_insert_64 : sm_seek (mP M_X9_insert) 64 = k_X9_insert_64 := rfl
theorem sk_X9_insert_72 : sm_seek (mP M_X9_insert) 72 = k_X9_insert_72 := rfl
def k_X9_remove_41 : List Ent := (41, .aload_n 0, 1, 0, 0, 0) :: (42, .iload_n 1, 1, 0, 0, 0) :: (43, .iconst 5, 1, 5, 0, 0) :: (44, .iload_n 2, 1, 0, 0, 0) :: (45, .iconst 0, 1, 0, 0, 0) :: (46, .aload_n 0, 1, 0, 0, 0) :: (47, .getfield 71, 3, 10, 308, 1) :: (50, .iload_n 3, 1, 0, 0, 0) :: (51, .iaload, 1, 0, 0, 0) :: (52, .invokevirtual 110, 3, 81, 0, 0) :: (55, .ireturn, 1, 0, 0, 0) :: []
def k_X9_remove_17 : List Ent := (17, .aload_n 0, 1, 0, 0, 0) :: (18, .iload_n 1, 1, 0, 0, 0) :: (19, .iload_n 2, 1, 0, 0, 0) :: (20, .iconst 0, 1, 0, 0, 0) :: (21, .invokevirtual 117, 3, 96, 0, 0) :: (24, .iload_n 3, 1, 0, 0, 0) :: (25, .iconst 0, 1, 0, 0, 0) :: (26, .aload_n 0, 1, 0, 0, 0) :: (27, .getfield 80, 3, 10, 309, 0) :: (30, .iconst 1, 1, 1, 0, 0) :: (31, .isub, 1, 0, 0, 0) :: (32, .invokestatic 84, 3, 72, 0, 2) :: (35, .ifCond .ne 6, 3, 41, 0, 0) :: (38, .bipush (-2), 2, 2, 1, 0) :: (40, .ireturn, 1, 0, 0, 0) :: k_X9_remove_41
def k_X9_remove_14 : List Ent := (14, .bipush (-2), 2, 2, 1, 0) :: (16, .ireturn, 1, 0, 0, 0) :: k_X9_remove_17
def k_X9_remove_0 : List Ent := (0, .iload_n 1, 1, 0, 0, 0) :: (1, .invokestatic 103, 3, 73, 0, 2) :: (4, .ifCond .eq 10, 3, 14, 0, 0) :: (7, .iload_n 2, 1, 0, 0, 0) :: (8, .invokestatic 107, 3, 74, 0, 2) :: (11, .ifCond .ne 6, 3, 17, 0, 0) :: k_X9_remove_14
def M_X9_remove : MI := (yX9_remove, cX9_remove, 4, (some .int), 4, 94, 9, 4, 11, k_X9_remove_0)
theorem sk_X9_remove_14 : sm_seek (mP M_X9_remove) 14 = k_X9_remove_14 := rfl
theorem sk_X9_remove_17 : sm_seek (mP M_X9_remove) 17 = k_X9_remove_17 := rfl
theorem sk_X9_remove_41 : sm_seek (mP M_X9_remove) 41 = k_X9_remove_41 := rfl
def k_X9_counter_71 : List Ent := (71, .iload_n 3, 1, 0, 0, 0) :: (72, .ireturn, 1, 0, 0, 0) :: []
def k_X9_counter_64 : List Ent := (64, .istore_n 3, 1, 0, 0, 0) :: (65, .iinc 4 1, 3, 1, 0, 0) :: (68, .goto (-63), 3, 5, 0, 0) :: k_X9_counter_71
def k_X9_counter_63 : List Ent := (63, .iload_n 3, 1, 0, 0, 0) :: k_X9_counter_64
def k_X9_counter_5 : List Ent := (5, .iload 4, 2, 0, 0, 0) :: (7, .sipush 240, 3, 240, 0, 0) :: (10, .if_icmp .ge 61, 3, 71, 0, 0) :: (13, .iload_n 1, 1, 0, 0, 0) :: (14, .invokestatic 103, 3, 73, 0, 2) :: (17, .ifCond .eq 54, 3, 71, 0, 0) :: (20, .aload_n 0, 1, 0, 0, 0) :: (21, .iload_n 1, 1, 0, 0, 0) :: (22, .iload 4, 2, 0, 0, 0) :: (24, .invokevirtual 121, 3, 79, 0, 0) :: (27, .ifCond .eq 36, 3, 63, 0, 0) :: (30, .aload_n 0, 1, 0, 0, 0) :: (31, .getfield 13, 3, 10, 289, 1) :: (34, .iload 4, 2, 0, 0, 0) :: (36, .iaload, 1, 0, 0, 0) :: (37, .ifCond .ne 26, 3, 63, 0, 0) :: (40, .aload_n 0, 1, 0, 0, 0) :: (41, .getfield 16, 3, 10, 290, 1) :: (44, .iload 4, 2, 0, 0, 0) :: (46, .iaload, 1, 0, 0, 0) :: (47, .iload_n 2, 1, 0, 0, 0) :: (48, .if_icmp .ne 15, 3, 63, 0, 0) :: (51, .iload_n 3, 1, 0, 0, 0) :: (52, .aload_n 0, 1, 0, 0, 0) :: (53, .getfield 19, 3, 10, 291, 1) :: (56, .iload 4, 2, 0, 0, 0) :: (58, .iaload, 1, 0, 0, 0) :: (59, .iadd, 1, 0, 0, 0) :: (60, .goto 4, 3, 64, 0, 0) :: k_X9_counter_63
def k_X9_counter_0 : List Ent := (0, .iconst 0, 1, 0, 0, 0) :: (1, .istore_n 3, 1, 0, 0, 0) :: (2, .iconst 0, 1, 0, 0, 0) :: (3, .istore 4, 2, 0, 0, 0) :: k_X9_counter_5
def M_X9_counter : MI := (yX9_counter, cX9_counter, 5, (some .int), 2, 42, 9, 3, 11, k_X9_counter_0)
theorem sk_X9_counter_5 : sm_seek (mP M_X9_counter) 5 = k_X9_counter_5 := rfl
theorem sk_X9_counter_63 : sm_seek (mP M_X9_counter) 63 = k_X9_counter_63 := rfl
theorem sk_X9_counter_64 : sm_seek (mP M_X9_counter) 64 = k_X9_counter_64 := rfl
theorem sk_X9_counter_71 : sm_seek (mP M_X9_counter) 71 = k_X9_counter_71 := rfl
def k_X9_isTaken_87 : List Ent := (87, .iconst 0, 1, 0, 0, 0) :: (88, .ireturn, 1, 0, 0, 0) :: []
def k_X9_isTaken_81 : List Ent := (81, .iinc 3 1, 3, 1, 0, 0) :: (84, .goto (-82), 3, 2, 0, 0) :: k_X9_isTaken_87
def k_X9_isTaken_63 : List Ent := (63, .istore 4, 2, 0, 0, 0) :: (65, .iload 4, 2, 0, 0, 0) :: (67, .ifCond .eq 14, 3, 81, 0, 0) :: (70, .aload_n 0, 1, 0, 0, 0) :: (71, .iload_n 2, 1, 0, 0, 0) :: (72, .iload_n 3, 1, 0, 0, 0) :: (73, .invokevirtual 125, 3, 77, 0, 0) :: (76, .ifCond .eq 5, 3, 81, 0, 0) :: (79, .iconst 1, 1, 1, 0, 0) :: (80, .ireturn, 1, 0, 0, 0) :: k_X9_isTaken_81
def k_X9_isTaken_62 : List Ent := (62, .iconst 0, 1, 0, 0, 0) :: k_X9_isTaken_63
def k_X9_isTaken_2 : List Ent := (2, .iload_n 3, 1, 0, 0, 0) :: (3, .sipush 240, 3, 240, 0, 0) :: (6, .if_icmp .ge 81, 3, 87, 0, 0) :: (9, .aload_n 0, 1, 0, 0, 0) :: (10, .iload_n 1, 1, 0, 0, 0) :: (11, .iload_n 3, 1, 0, 0, 0) :: (12, .invokevirtual 121, 3, 79, 0, 0) :: (15, .ifCond .eq 47, 3, 62, 0, 0) :: (18, .aload_n 0, 1, 0, 0, 0) :: (19, .getfield 13, 3, 10, 289, 1) :: (22, .iload_n 3, 1, 0, 0, 0) :: (23, .iaload, 1, 0, 0, 0) :: (24, .iconst 2, 1, 2, 0, 0) :: (25, .if_icmp .ne 37, 3, 62, 0, 0) :: (28, .aload_n 0, 1, 0, 0, 0) :: (29, .getfield 16, 3, 10, 290, 1) :: (32, .iload_n 3, 1, 0, 0, 0) :: (33, .iaload, 1, 0, 0, 0) :: (34, .aload_n 0, 1, 0, 0, 0) :: (35, .getfield 16, 3, 10, 290, 1) :: (38, .iload_n 2, 1, 0, 0, 0) :: (39, .iaload, 1, 0, 0, 0) :: (40, .if_icmp .ne 22, 3, 62, 0, 0) :: (43, .aload_n 0, 1, 0, 0, 0) :: (44, .getfield 19, 3, 10, 291, 1) :: (47, .iload_n 3, 1, 0, 0, 0) :: (48, .iaload, 1, 0, 0, 0) :: (49, .aload_n 0, 1, 0, 0, 0) :: (50, .getfield 19, 3, 10, 291, 1) :: (53, .iload_n 2, 1, 0, 0, 0) :: (54, .iaload, 1, 0, 0, 0) :: (55, .if_icmp .ne 7, 3, 62, 0, 0) :: (58, .iconst 1, 1, 1, 0, 0) :: (59, .goto 4, 3, 63, 0, 0) :: k_X9_isTaken_62
def k_X9_isTaken_0 : List Ent := (0, .iconst 0, 1, 0, 0, 0) :: (1, .istore_n 3, 1, 0, 0, 0) :: k_X9_isTaken_2
def M_X9_isTaken : MI := (yX9_isTaken, cX9_isTaken, 5, (some .boolean), 2, 42, 9, 3, 11, k_X9_isTaken_0)
theorem sk_X9_isTaken_2 : sm_seek (mP M_X9_isTaken) 2 = k_X9_isTaken_2 := rfl
theorem sk_X9_isTaken_62 : sm_seek (mP M_X9_isTaken) 62 = k_X9_isTaken_62 := rfl
theorem sk_X9_isTaken_63 : sm_seek (mP M_X9_isTaken) 63 = k_X9_isTaken_63 := rfl
theorem sk_X9_isTaken_81 : sm_seek (mP M_X9_isTaken) 81 = k_X9_isTaken_81 := rfl
theorem sk_X9_isTaken_87 : sm_seek (mP M_X9_isTaken) 87 = k_X9_isTaken_87 := rfl
def k_X9_has_96 : List Ent := (96, .iconst 0, 1, 0, 0, 0) :: (97, .ireturn, 1, 0, 0, 0) :: []
def k_X9_has_90 : List Ent := (90, .iinc 4 1, 3, 1, 0, 0) :: (93, .goto (-78), 3, 15, 0, 0) :: k_X9_has_96
def k_X9_has_71 : List Ent := (71, .istore 5, 2, 0, 0, 0) :: (73, .iload 5, 2, 0, 0, 0) :: (75, .ifCond .eq 15, 3, 90, 0, 0) :: (78, .aload_n 0, 1, 0, 0, 0) :: (79, .iload_n 1, 1, 0, 0, 0) :: (80, .iload 4, 2, 0, 0, 0) :: (82, .invokevirtual 128, 3, 90, 0, 0) :: (85, .ifCond .ne 5, 3, 90, 0, 0) :: (88, .iconst 1, 1, 1, 0, 0) :: (89, .ireturn, 1, 0, 0, 0) :: k_X9_has_90
def k_X9_has_70 : List Ent := (70, .iconst 0, 1, 0, 0, 0) :: k_X9_has_71
def k_X9_has_15 : List Ent := (15, .iload 4, 2, 0, 0, 0) :: (17, .sipush 240, 3, 240, 0, 0) :: (20, .if_icmp .ge 76, 3, 96, 0, 0) :: (23, .aload_n 0, 1, 0, 0, 0) :: (24, .iload_n 1, 1, 0, 0, 0) :: (25, .iload 4, 2, 0, 0, 0) :: (27, .invokevirtual 121, 3, 79, 0, 0) :: (30, .ifCond .eq 40, 3, 70, 0, 0) :: (33, .aload_n 0, 1, 0, 0, 0) :: (34, .getfield 13, 3, 10, 289, 1) :: (37, .iload 4, 2, 0, 0, 0) :: (39, .iaload, 1, 0, 0, 0) :: (40, .iconst 1, 1, 1, 0, 0) :: (41, .if_icmp .ne 29, 3, 70, 0, 0) :: (44, .aload_n 0, 1, 0, 0, 0) :: (45, .getfield 16, 3, 10, 290, 1) :: (48, .iload 4, 2, 0, 0, 0) :: (50, .iaload, 1, 0, 0, 0) :: (51, .iload_n 2, 1, 0, 0, 0) :: (52, .if_icmp .ne 18, 3, 70, 0, 0) :: (55, .aload_n 0, 1, 0, 0, 0) :: (56, .getfield 19, 3, 10, 291, 1) :: (59, .iload 4, 2, 0, 0, 0) :: (61, .iaload, 1, 0, 0, 0) :: (62, .iload_n 3, 1, 0, 0, 0) :: (63, .if_icmp .ne 7, 3, 70, 0, 0) :: (66, .iconst 1, 1, 1, 0, 0) :: (67, .goto 4, 3, 71, 0, 0) :: k_X9_has_70
def k_X9_has_12 : List Ent := (12, .iconst 0, 1, 0, 0, 0) :: (13, .istore 4, 2, 0, 0, 0) :: k_X9_has_15
def k_X9_has_0 : List Ent := (0, .iload_n 1, 1, 0, 0, 0) :: (1, .iload_n 2, 1, 0, 0, 0) :: (2, .iload_n 3, 1, 0, 0, 0) :: (3, .invokestatic 114, 3, 83, 0, 2) :: (6, .ifCond .ne 6, 3, 12, 0, 0) :: (9, .bipush (-2), 2, 2, 1, 0) :: (11, .ireturn, 1, 0, 0, 0) :: k_X9_has_12
def M_X9_has : MI := (yX9_has, cX9_has, 6, (some .int), 3, 66, 9, 4, 11, k_X9_has_0)
theorem sk_X9_has_12 : sm_seek (mP M_X9_has) 12 = k_X9_has_12 := rfl
theorem sk_X9_has_15 : sm_seek (mP M_X9_has) 15 = k_X9_has_15 := rfl
theorem sk_X9_has_70 : sm_seek (mP M_X9_has) 70 = k_X9_has_70 := rfl
theorem sk_X9_has_71 : sm_seek (mP M_X9_has) 71 = k_X9_has_71 := rfl
theorem sk_X9_has_90 : sm_seek (mP M_X9_has) 90 = k_X9_has_90 := rfl
theorem sk_X9_has_96 : sm_seek (mP M_X9_has) 96 = k_X9_has_96 := rfl
def k_X9_size_46 : List Ent := (46, .iload_n 3, 1, 0, 0, 0) :: (47, .ireturn, 1, 0, 0, 0) :: []
def k_X9_size_22 : List Ent := (22, .iload 4, 2, 0, 0, 0) :: (24, .bipush 32, 2, 32, 0, 0) :: (26, .if_icmp .ge 20, 3, 46, 0, 0) :: (29, .iload_n 3, 1, 0, 0, 0) :: (30, .aload_n 0, 1, 0, 0, 0) :: (31, .iload_n 1, 1, 0, 0, 0) :: (32, .iload_n 2, 1, 0, 0, 0) :: (33, .iload 4, 2, 0, 0, 0) :: (35, .invokevirtual 131, 3, 91, 0, 0) :: (38, .iadd, 1, 0, 0, 0) :: (39, .istore_n 3, 1, 0, 0, 0) :: (40, .iinc 4 1, 3, 1, 0, 0) :: (43, .goto (-21), 3, 22, 0, 0) :: k_X9_size_46
def k_X9_size_17 : List Ent := (17, .iconst 0, 1, 0, 0, 0) :: (18, .istore_n 3, 1, 0, 0, 0) :: (19, .iconst 0, 1, 0, 0, 0) :: (20, .istore 4, 2, 0, 0, 0) :: k_X9_size_22
def k_X9_size_14 : List Ent := (14, .bipush (-2), 2, 2, 1, 0) :: (16, .ireturn, 1, 0, 0, 0) :: k_X9_size_17
def k_X9_size_0 : List Ent := (0, .iload_n 1, 1, 0, 0, 0) :: (1, .invokestatic 103, 3, 73, 0, 2) :: (4, .ifCond .eq 10, 3, 14, 0, 0) :: (7, .iload_n 2, 1, 0, 0, 0) :: (8, .invokestatic 107, 3, 74, 0, 2) :: (11, .ifCond .ne 6, 3, 17, 0, 0) :: k_X9_size_14
def M_X9_size : MI := (yX9_size, cX9_size, 5, (some .int), 4, 91, 9, 3, 11, k_X9_size_0)
theorem sk_X9_size_14 : sm_seek (mP M_X9_size) 14 = k_X9_size_14 := rfl
theorem sk_X9_size_17 : sm_seek (mP M_X9_size) 17 = k_X9_size_17 := rfl
theorem sk_X9_size_22 : sm_seek (mP M_X9_size) 22 = k_X9_size_22 := rfl
theorem sk_X9_size_46 : sm_seek (mP M_X9_size) 46 = k_X9_size_46 := rfl
def k_X9_register_105 : List Ent := (105, .ireturn, 1, 0, 0, 0) :: []
def k_X9_register_99 : List Ent := (99, .aload_n 0, 1, 0, 0, 0) :: (100, .getfield 19, 3, 10, 291, 1) :: (103, .iload_n 3, 1, 0, 0, 0) :: (104, .iaload, 1, 0, 0, 0) :: k_X9_register_105
def k_X9_register_91 : List Ent := (91, .iload_n 3, 1, 0, 0, 0) :: (92, .ifCond .ge 7, 3, 99, 0, 0) :: (95, .iconst 0, 1, 0, 0, 0) :: (96, .goto 9, 3, 105, 0, 0) :: k_X9_register_99
def k_X9_register_84 : List Ent := (84, .istore_n 3, 1, 0, 0, 0) :: (85, .iinc 4 1, 3, 1, 0, 0) :: (88, .goto (-83), 3, 5, 0, 0) :: k_X9_register_91
def k_X9_register_83 : List Ent := (83, .iload_n 3, 1, 0, 0, 0) :: k_X9_register_84
def k_X9_register_78 : List Ent := (78, .iload 4, 2, 0, 0, 0) :: (80, .goto 4, 3, 84, 0, 0) :: k_X9_register_83
def k_X9_register_57 : List Ent := (57, .istore 5, 2, 0, 0, 0) :: (59, .iload 5, 2, 0, 0, 0) :: (61, .ifCond .eq 22, 3, 83, 0, 0) :: (64, .iload_n 3, 1, 0, 0, 0) :: (65, .ifCond .lt 13, 3, 78, 0, 0) :: (68, .aload_n 0, 1, 0, 0, 0) :: (69, .iload 4, 2, 0, 0, 0) :: (71, .iload_n 3, 1, 0, 0, 0) :: (72, .invokevirtual 135, 3, 78, 0, 0) :: (75, .ifCond .eq 8, 3, 83, 0, 0) :: k_X9_register_78
def k_X9_register_56 : List Ent := (56, .iconst 0, 1, 0, 0, 0) :: k_X9_register_57
def k_X9_register_5 : List Ent := (5, .iload 4, 2, 0, 0, 0) :: (7, .sipush 240, 3, 240, 0, 0) :: (10, .if_icmp .ge 81, 3, 91, 0, 0) :: (13, .iload_n 1, 1, 0, 0, 0) :: (14, .invokestatic 103, 3, 73, 0, 2) :: (17, .ifCond .eq 74, 3, 91, 0, 0) :: (20, .aload_n 0, 1, 0, 0, 0) :: (21, .iload_n 1, 1, 0, 0, 0) :: (22, .iload 4, 2, 0, 0, 0) :: (24, .invokevirtual 121, 3, 79, 0, 0) :: (27, .ifCond .eq 29, 3, 56, 0, 0) :: (30, .aload_n 0, 1, 0, 0, 0) :: (31, .getfield 13, 3, 10, 289, 1) :: (34, .iload 4, 2, 0, 0, 0) :: (36, .iaload, 1, 0, 0, 0) :: (37, .iconst 3, 1, 3, 0, 0) :: (38, .if_icmp .ne 18, 3, 56, 0, 0) :: (41, .aload_n 0, 1, 0, 0, 0) :: (42, .getfield 16, 3, 10, 290, 1) :: (45, .iload 4, 2, 0, 0, 0) :: (47, .iaload, 1, 0, 0, 0) :: (48, .iload_n 2, 1, 0, 0, 0) :: (49, .if_icmp .ne 7, 3, 56, 0, 0) :: (52, .iconst 1, 1, 1, 0, 0) :: (53, .goto 4, 3, 57, 0, 0) :: k_X9_register_56
def k_X9_register_0 : List Ent := (0, .iconst (-1), 1, 1, 1, 0) :: (1, .istore_n 3, 1, 0, 0, 0) :: (2, .iconst 0, 1, 0, 0, 0) :: (3, .istore 4, 2, 0, 0, 0) :: k_X9_register_5
def M_X9_register : MI := (yX9_register, cX9_register, 6, (some .int), 2, 42, 9, 3, 11, k_X9_register_0)
theorem sk_X9_register_5 : sm_seek (mP M_X9_register) 5 = k_X9_register_5 := rfl
theorem sk_X9_register_56 : sm_seek (mP M_X9_register) 56 = k_X9_register_56 := rfl
theorem sk_X9_register_57 : sm_seek (mP M_X9_register) 57 = k_X9_register_57 := rfl
theorem sk_X9_register_78 : sm_seek (mP M_X9_register) 78 = k_X9_register_78 := rfl
theorem sk_X9_register_83 : sm_seek (mP M_X9_register) 83 = k_X9_register_83 := rfl
theorem sk_X9_register_84 : sm_seek (mP M_X9_register) 84 = k_X9_register_84 := rfl
theorem sk_X9_register_91 : sm_seek (mP M_X9_register) 91 = k_X9_register_91 := rfl
theorem sk_X9_register_99 : sm_seek (mP M_X9_register) 99 = k_X9_register_99 := rfl
theorem sk_X9_register_105 : sm_seek (mP M_X9_register) 105 = k_X9_register_105 := rfl
def k_X9_isRemoved_46 : List Ent := (46, .iconst 0, 1, 0, 0, 0) :: (47, .ireturn, 1, 0, 0, 0) :: []
def k_X9_isRemoved_40 : List Ent := (40, .iinc 3 1, 3, 1, 0, 0) :: (43, .goto (-41), 3, 2, 0, 0) :: k_X9_isRemoved_46
def k_X9_isRemoved_2 : List Ent := (2, .iload_n 3, 1, 0, 0, 0) :: (3, .sipush 240, 3, 240, 0, 0) :: (6, .if_icmp .ge 40, 3, 46, 0, 0) :: (9, .aload_n 0, 1, 0, 0, 0) :: (10, .iload_n 1, 1, 0, 0, 0) :: (11, .iload_n 3, 1, 0, 0, 0) :: (12, .invokevirtual 121, 3, 79, 0, 0) :: (15, .ifCond .eq 25, 3, 40, 0, 0) :: (18, .aload_n 0, 1, 0, 0, 0) :: (19, .getfield 13, 3, 10, 289, 1) :: (22, .iload_n 3, 1, 0, 0, 0) :: (23, .iaload, 1, 0, 0, 0) :: (24, .iconst 5, 1, 5, 0, 0) :: (25, .if_icmp .ne 15, 3, 40, 0, 0) :: (28, .aload_n 0, 1, 0, 0, 0) :: (29, .getfield 22, 3, 10, 292, 1) :: (32, .iload_n 3, 1, 0, 0, 0) :: (33, .iaload, 1, 0, 0, 0) :: (34, .iload_n 2, 1, 0, 0, 0) :: (35, .if_icmp .ne 5, 3, 40, 0, 0) :: (38, .iconst 1, 1, 1, 0, 0) :: (39, .ireturn, 1, 0, 0, 0) :: k_X9_isRemoved_40
def k_X9_isRemoved_0 : List Ent := (0, .iconst 0, 1, 0, 0, 0) :: (1, .istore_n 3, 1, 0, 0, 0) :: k_X9_isRemoved_2
def M_X9_isRemoved : MI := (yX9_isRemoved, cX9_isRemoved, 4, (some .boolean), 1, 22, 9, 3, 11, k_X9_isRemoved_0)
theorem sk_X9_isRemoved_2 : sm_seek (mP M_X9_isRemoved) 2 = k_X9_isRemoved_2 := rfl
theorem sk_X9_isRemoved_40 : sm_seek (mP M_X9_isRemoved) 40 = k_X9_isRemoved_40 := rfl
theorem sk_X9_isRemoved_46 : sm_seek (mP M_X9_isRemoved) 46 = k_X9_isRemoved_46 := rfl
def k_X9_pileUp_127 : List Ent := (127, .iload 5, 2, 0, 0, 0) :: (129, .ireturn, 1, 0, 0, 0) :: []
def k_X9_pileUp_121 : List Ent := (121, .iinc 6 1, 3, 1, 0, 0) :: (124, .goto (-117), 3, 7, 0, 0) :: k_X9_pileUp_127
def k_X9_pileUp_109 : List Ent := (109, .aload_n 0, 1, 0, 0, 0) :: (110, .getfield 74, 3, 10, 310, 1) :: (113, .iload 7, 2, 0, 0, 0) :: (115, .iload 6, 2, 0, 0, 0) :: (117, .iastore, 1, 0, 0, 0) :: (118, .iinc 5 1, 3, 1, 0, 0) :: k_X9_pileUp_121
def k_X9_pileUp_62 : List Ent := (62, .iload 7, 2, 0, 0, 0) :: (64, .iload 4, 2, 0, 0, 0) :: (66, .if_icmp .le 43, 3, 109, 0, 0) :: (69, .aload_n 0, 1, 0, 0, 0) :: (70, .aload_n 0, 1, 0, 0, 0) :: (71, .getfield 74, 3, 10, 310, 1) :: (74, .iload 7, 2, 0, 0, 0) :: (76, .iconst 1, 1, 1, 0, 0) :: (77, .isub, 1, 0, 0, 0) :: (78, .iaload, 1, 0, 0, 0) :: (79, .iload 6, 2, 0, 0, 0) :: (81, .invokevirtual 135, 3, 78, 0, 0) :: (84, .ifCond .eq 25, 3, 109, 0, 0) :: (87, .aload_n 0, 1, 0, 0, 0) :: (88, .getfield 74, 3, 10, 310, 1) :: (91, .iload 7, 2, 0, 0, 0) :: (93, .aload_n 0, 1, 0, 0, 0) :: (94, .getfield 74, 3, 10, 310, 1) :: (97, .iload 7, 2, 0, 0, 0) :: (99, .iconst 1, 1, 1, 0, 0) :: (100, .isub, 1, 0, 0, 0) :: (101, .iaload, 1, 0, 0, 0) :: (102, .iastore, 1, 0, 0, 0) :: (103, .iinc 7 (-1), 3, 1, 1, 0) :: (106, .goto (-44), 3, 62, 0, 0) :: k_X9_pileUp_109
def k_X9_pileUp_7 : List Ent := (7, .iload 6, 2, 0, 0, 0) :: (9, .sipush 240, 3, 240, 0, 0) :: (12, .if_icmp .ge 115, 3, 127, 0, 0) :: (15, .aload_n 0, 1, 0, 0, 0) :: (16, .iload_n 1, 1, 0, 0, 0) :: (17, .iload 6, 2, 0, 0, 0) :: (19, .invokevirtual 121, 3, 79, 0, 0) :: (22, .ifCond .eq 99, 3, 121, 0, 0) :: (25, .aload_n 0, 1, 0, 0, 0) :: (26, .getfield 13, 3, 10, 289, 1) :: (29, .iload 6, 2, 0, 0, 0) :: (31, .iaload, 1, 0, 0, 0) :: (32, .iconst 4, 1, 4, 0, 0) :: (33, .if_icmp .ne 88, 3, 121, 0, 0) :: (36, .aload_n 0, 1, 0, 0, 0) :: (37, .getfield 16, 3, 10, 290, 1) :: (40, .iload 6, 2, 0, 0, 0) :: (42, .iaload, 1, 0, 0, 0) :: (43, .iload_n 2, 1, 0, 0, 0) :: (44, .if_icmp .ne 77, 3, 121, 0, 0) :: (47, .aload_n 0, 1, 0, 0, 0) :: (48, .getfield 22, 3, 10, 292, 1) :: (51, .iload 6, 2, 0, 0, 0) :: (53, .iaload, 1, 0, 0, 0) :: (54, .iload_n 3, 1, 0, 0, 0) :: (55, .if_icmp .ne 66, 3, 121, 0, 0) :: (58, .iload 5, 2, 0, 0, 0) :: (60, .istore 7, 2, 0, 0, 0) :: k_X9_pileUp_62
def k_X9_pileUp_0 : List Ent := (0, .iload 4, 2, 0, 0, 0) :: (2, .istore 5, 2, 0, 0, 0) :: (4, .iconst 0, 1, 0, 0, 0) :: (5, .istore 6, 2, 0, 0, 0) :: k_X9_pileUp_7
def M_X9_pileUp : MI := (yX9_pileUp, cX9_pileUp, 8, (some .int), 2, 42, 9, 5, 11, k_X9_pileUp_0)
theorem sk_X9_pileUp_7 : sm_seek (mP M_X9_pileUp) 7 = k_X9_pileUp_7 := rfl
theorem sk_X9_pileUp_62 : sm_seek (mP M_X9_pileUp) 62 = k_X9_pileUp_62 := rfl
theorem sk_X9_pileUp_109 : sm_seek (mP M_X9_pileUp) 109 = k_X9_pileUp_109 := rfl
theorem sk_X9_pileUp_121 : sm_seek (mP M_X9_pileUp) 121 = k_X9_pileUp_121 := rfl
theorem sk_X9_pileUp_127 : sm_seek (mP M_X9_pileUp) 127 = k_X9_pileUp_127 := rfl
def k_X9_lay_82 : List Ent := (82, .return_, 1, 0, 0, 0) :: []
def k_X9_lay_67 : List Ent := (67, .aload_n 0, 1, 0, 0, 0) :: (68, .iload_n 1, 1, 0, 0, 0) :: (69, .iload_n 2, 1, 0, 0, 0) :: (70, .iload 5, 2, 0, 0, 0) :: (72, .iload 4, 2, 0, 0, 0) :: (74, .invokevirtual 138, 3, 95, 0, 0) :: (77, .istore 4, 2, 0, 0, 0) :: (79, .goto (-64), 3, 15, 0, 0) :: k_X9_lay_82
def k_X9_lay_46 : List Ent := (46, .aload_n 0, 1, 0, 0, 0) :: (47, .getfield 71, 3, 10, 308, 1) :: (50, .aload_n 0, 1, 0, 0, 0) :: (51, .getfield 80, 3, 10, 309, 0) :: (54, .iload 5, 2, 0, 0, 0) :: (56, .iastore, 1, 0, 0, 0) :: (57, .aload_n 0, 1, 0, 0, 0) :: (58, .dup, 1, 0, 0, 0) :: (59, .getfield 80, 3, 10, 309, 0) :: (62, .iconst 1, 1, 1, 0, 0) :: (63, .iadd, 1, 0, 0, 0) :: (64, .putfield 80, 3, 10, 309, 0) :: k_X9_lay_67
def k_X9_lay_15 : List Ent := (15, .iload 4, 2, 0, 0, 0) :: (17, .ifCond .le 65, 3, 82, 0, 0) :: (20, .iinc 4 (-1), 3, 1, 1, 0) :: (23, .aload_n 0, 1, 0, 0, 0) :: (24, .getfield 74, 3, 10, 310, 1) :: (27, .iload 4, 2, 0, 0, 0) :: (29, .iaload, 1, 0, 0, 0) :: (30, .istore 5, 2, 0, 0, 0) :: (32, .iload_n 3, 1, 0, 0, 0) :: (33, .ifCond .ne 13, 3, 46, 0, 0) :: (36, .aload_n 0, 1, 0, 0, 0) :: (37, .iload_n 1, 1, 0, 0, 0) :: (38, .iload 5, 2, 0, 0, 0) :: (40, .invokevirtual 142, 3, 94, 0, 0) :: (43, .ifCond .ne 24, 3, 67, 0, 0) :: k_X9_lay_46
def k_X9_lay_0 : List Ent := (0, .aload_n 0, 1, 0, 0, 0) :: (1, .iconst 0, 1, 0, 0, 0) :: (2, .putfield 80, 3, 10, 309, 0) :: (5, .aload_n 0, 1, 0, 0, 0) :: (6, .iload_n 1, 1, 0, 0, 0) :: (7, .iload_n 2, 1, 0, 0, 0) :: (8, .iconst (-1), 1, 1, 1, 0) :: (9, .iconst 0, 1, 0, 0, 0) :: (10, .invokevirtual 138, 3, 95, 0, 0) :: (13, .istore 4, 2, 0, 0, 0) :: k_X9_lay_15
def M_X9_lay : MI := (yX9_lay, cX9_lay, 6, none, 3, 69, 9, 4, 11, k_X9_lay_0)
theorem sk_X9_lay_15 : sm_seek (mP M_X9_lay) 15 = k_X9_lay_15 := rfl
theorem sk_X9_lay_46 : sm_seek (mP M_X9_lay) 46 = k_X9_lay_46 := rfl
theorem sk_X9_lay_67 : sm_seek (mP M_X9_lay) 67 = k_X9_lay_67 := rfl
theorem sk_X9_lay_82 : sm_seek (mP M_X9_lay) 82 = k_X9_lay_82 := rfl
end
section
def k_X9_length_17 : List Ent := (17, .aload_n 0, 1, 0, 0, 0) :: (18, .iload_n 1, 1, 0, 0, 0) :: (19, .iload_n 2, 1, 0, 0, 0) :: (20, .iconst 0, 1, 0, 0, 0) :: (21, .invokevirtual 117, 3, 96, 0, 0) :: (24, .aload_n 0, 1, 0, 0, 0) :: (25, .getfield 80, 3, 10, 309, 0) :: (28, .ireturn, 1, 0, 0, 0) :: []
def k_X9_length_14 : List Ent := (14, .bipush (-2), 2, 2, 1, 0) :: (16, .ireturn, 1, 0, 0, 0) :: k_X9_length_17
def k_X9_length_0 : List Ent := (0, .iload_n 1, 1, 0, 0, 0) :: (1, .invokestatic 103, 3, 73, 0, 2) :: (4, .ifCond .eq 10, 3, 14, 0, 0) :: (7, .iload_n 2, 1, 0, 0, 0) :: (8, .invokestatic 107, 3, 74, 0, 2) :: (11, .ifCond .ne 6, 3, 17, 0, 0) :: k_X9_length_14
def M_X9_length : MI := (yX9_length, cX9_length, 3, (some .int), 4, 94, 9, 3, 11, k_X9_length_0)
theorem sk_X9_length_14 : sm_seek (mP M_X9_length) 14 = k_X9_length_14 := rfl
theorem sk_X9_length_17 : sm_seek (mP M_X9_length) 17 = k_X9_length_17 := rfl
def k_X9_character_52 : List Ent := (52, .ireturn, 1, 0, 0, 0) :: []
def k_X9_character_51 : List Ent := (51, .iconst (-1), 1, 1, 1, 0) :: k_X9_character_52
def k_X9_character_16 : List Ent := (16, .aload_n 0, 1, 0, 0, 0) :: (17, .iload_n 1, 1, 0, 0, 0) :: (18, .iload_n 2, 1, 0, 0, 0) :: (19, .iconst 0, 1, 0, 0, 0) :: (20, .invokevirtual 117, 3, 96, 0, 0) :: (23, .iload_n 3, 1, 0, 0, 0) :: (24, .iconst 0, 1, 0, 0, 0) :: (25, .aload_n 0, 1, 0, 0, 0) :: (26, .getfield 80, 3, 10, 309, 0) :: (29, .iconst 1, 1, 1, 0, 0) :: (30, .isub, 1, 0, 0, 0) :: (31, .invokestatic 84, 3, 72, 0, 2) :: (34, .ifCond .eq 17, 3, 51, 0, 0) :: (37, .aload_n 0, 1, 0, 0, 0) :: (38, .getfield 19, 3, 10, 291, 1) :: (41, .aload_n 0, 1, 0, 0, 0) :: (42, .getfield 71, 3, 10, 308, 1) :: (45, .iload_n 3, 1, 0, 0, 0) :: (46, .iaload, 1, 0, 0, 0) :: (47, .iaload, 1, 0, 0, 0) :: (48, .goto 4, 3, 52, 0, 0) :: k_X9_character_51
def k_X9_character_14 : List Ent := (14, .iconst (-1), 1, 1, 1, 0) :: (15, .ireturn, 1, 0, 0, 0) :: k_X9_character_16
def k_X9_character_0 : List Ent := (0, .iload_n 1, 1, 0, 0, 0) :: (1, .invokestatic 103, 3, 73, 0, 2) :: (4, .ifCond .eq 10, 3, 14, 0, 0) :: (7, .iload_n 2, 1, 0, 0, 0) :: (8, .invokestatic 107, 3, 74, 0, 2) :: (11, .ifCond .ne 5, 3, 16, 0, 0) :: k_X9_character_14
def M_X9_character : MI := (yX9_character, cX9_character, 4, (some .int), 4, 94, 9, 4, 11, k_X9_character_0)
theorem sk_X9_character_14 : sm_seek (mP M_X9_character) 14 = k_X9_character_14 := rfl
theorem sk_X9_character_16 : sm_seek (mP M_X9_character) 16 = k_X9_character_16 := rfl
theorem sk_X9_character_51 : sm_seek (mP M_X9_character) 51 = k_X9_character_51 := rfl
theorem sk_X9_character_52 : sm_seek (mP M_X9_character) 52 = k_X9_character_52 := rfl
def k_X9_isWay_24 : List Ent := (24, .ireturn, 1, 0, 0, 0) :: []
def k_X9_isWay_23 : List Ent := (23, .iconst 0, 1, 0, 0, 0) :: k_X9_isWay_24
def k_X9_isWay_0 : List Ent := (0, .iload_n 0, 1, 0, 0, 0) :: (1, .invokestatic 103, 3, 73, 0, 2) :: (4, .ifCond .eq 19, 3, 23, 0, 0) :: (7, .iload_n 1, 1, 0, 0, 0) :: (8, .invokestatic 103, 3, 73, 0, 2) :: (11, .ifCond .eq 12, 3, 23, 0, 0) :: (14, .iload_n 0, 1, 0, 0, 0) :: (15, .iload_n 1, 1, 0, 0, 0) :: (16, .if_icmp .eq 7, 3, 23, 0, 0) :: (19, .iconst 1, 1, 1, 0, 0) :: (20, .goto 4, 3, 24, 0, 0) :: k_X9_isWay_23
def M_X9_isWay : MI := (yX9_isWay, cX9_isWay, 2, (some .boolean), 2, 42, 9, 2, 0, k_X9_isWay_0)
theorem sk_X9_isWay_23 : sm_seek (mP M_X9_isWay) 23 = k_X9_isWay_23 := rfl
theorem sk_X9_isWay_24 : sm_seek (mP M_X9_isWay) 24 = k_X9_isWay_24 := rfl
def k_X9_isMessage_33 : List Ent := (33, .ireturn, 1, 0, 0, 0) :: []
def k_X9_isMessage_32 : List Ent := (32, .iconst 0, 1, 0, 0, 0) :: k_X9_isMessage_33
def k_X9_isMessage_0 : List Ent := (0, .iload_n 1, 1, 0, 0, 0) :: (1, .iload_n 2, 1, 0, 0, 0) :: (2, .invokestatic 145, 3, 99, 0, 2) :: (5, .ifCond .eq 27, 3, 32, 0, 0) :: (8, .iload_n 3, 1, 0, 0, 0) :: (9, .iconst 0, 1, 0, 0, 0) :: (10, .aload_n 0, 1, 0, 0, 0) :: (11, .getfield 59, 3, 10, 304, 1) :: (14, .iconst 4, 1, 4, 0, 0) :: (15, .iload_n 1, 1, 0, 0, 0) :: (16, .imul, 1, 0, 0, 0) :: (17, .iload_n 2, 1, 0, 0, 0) :: (18, .iadd, 1, 0, 0, 0) :: (19, .iaload, 1, 0, 0, 0) :: (20, .iconst 1, 1, 1, 0, 0) :: (21, .isub, 1, 0, 0, 0) :: (22, .invokestatic 84, 3, 72, 0, 2) :: (25, .ifCond .eq 7, 3, 32, 0, 0) :: (28, .iconst 1, 1, 1, 0, 0) :: (29, .goto 4, 3, 33, 0, 0) :: k_X9_isMessage_32
def M_X9_isMessage : MI := (yX9_isMessage, cX9_isMessage, 4, (some .boolean), 3, 63, 9, 4, 11, k_X9_isMessage_0)
theorem sk_X9_isMessage_32 : sm_seek (mP M_X9_isMessage) 32 = k_X9_isMessage_32 := rfl
theorem sk_X9_isMessage_33 : sm_seek (mP M_X9_isMessage) 33 = k_X9_isMessage_33 := rfl
def k_X9_send_98 : List Ent := (98, .return_, 1, 0, 0, 0) :: []
def k_X9_send_66 : List Ent := (66, .iload 9, 2, 0, 0, 0) :: (68, .iconst 4, 1, 4, 0, 0) :: (69, .if_icmp .ge 29, 3, 98, 0, 0) :: (72, .aload_n 0, 1, 0, 0, 0) :: (73, .getfield 68, 3, 10, 307, 1) :: (76, .iconst 4, 1, 4, 0, 0) :: (77, .iload 8, 2, 0, 0, 0) :: (79, .imul, 1, 0, 0, 0) :: (80, .iload 9, 2, 0, 0, 0) :: (82, .iadd, 1, 0, 0, 0) :: (83, .aload 5, 2, 0, 0, 0) :: (85, .iload 6, 2, 0, 0, 0) :: (87, .iload 9, 2, 0, 0, 0) :: (89, .iadd, 1, 0, 0, 0) :: (90, .iaload, 1, 0, 0, 0) :: (91, .iastore, 1, 0, 0, 0) :: (92, .iinc 9 1, 3, 1, 0, 0) :: (95, .goto (-29), 3, 66, 0, 0) :: k_X9_send_98
def k_X9_send_20 : List Ent := (20, .bipush 30, 2, 30, 0, 0) :: (22, .iload 7, 2, 0, 0, 0) :: (24, .imul, 1, 0, 0, 0) :: (25, .aload_n 0, 1, 0, 0, 0) :: (26, .getfield 59, 3, 10, 304, 1) :: (29, .iload 7, 2, 0, 0, 0) :: (31, .iaload, 1, 0, 0, 0) :: (32, .iadd, 1, 0, 0, 0) :: (33, .istore 8, 2, 0, 0, 0) :: (35, .aload_n 0, 1, 0, 0, 0) :: (36, .getfield 59, 3, 10, 304, 1) :: (39, .iload 7, 2, 0, 0, 0) :: (41, .dup2, 1, 0, 0, 0) :: (42, .iaload, 1, 0, 0, 0) :: (43, .iconst 1, 1, 1, 0, 0) :: (44, .iadd, 1, 0, 0, 0) :: (45, .iastore, 1, 0, 0, 0) :: (46, .aload_n 0, 1, 0, 0, 0) :: (47, .getfield 62, 3, 10, 305, 1) :: (50, .iload 8, 2, 0, 0, 0) :: (52, .iload_n 3, 1, 0, 0, 0) :: (53, .iastore, 1, 0, 0, 0) :: (54, .aload_n 0, 1, 0, 0, 0) :: (55, .getfield 65, 3, 10, 306, 1) :: (58, .iload 8, 2, 0, 0, 0) :: (60, .iload 4, 2, 0, 0, 0) :: (62, .iastore, 1, 0, 0, 0) :: (63, .iconst 0, 1, 0, 0, 0) :: (64, .istore 9, 2, 0, 0, 0) :: k_X9_send_66
def k_X9_send_0 : List Ent := (0, .iconst 4, 1, 4, 0, 0) :: (1, .iload_n 1, 1, 0, 0, 0) :: (2, .imul, 1, 0, 0, 0) :: (3, .iload_n 2, 1, 0, 0, 0) :: (4, .iadd, 1, 0, 0, 0) :: (5, .istore 7, 2, 0, 0, 0) :: (7, .aload_n 0, 1, 0, 0, 0) :: (8, .getfield 59, 3, 10, 304, 1) :: (11, .iload 7, 2, 0, 0, 0) :: (13, .iaload, 1, 0, 0, 0) :: (14, .bipush 30, 2, 30, 0, 0) :: (16, .if_icmp .ne 4, 3, 20, 0, 0) :: (19, .return_, 1, 0, 0, 0) :: k_X9_send_20
def M_X9_send : MI := (yX9_send, cX9_send, 10, none, 0, 0, 9, 7, 11, k_X9_send_0)
theorem sk_X9_send_20 : sm_seek (mP M_X9_send) 20 = k_X9_send_20 := rfl
theorem sk_X9_send_66 : sm_seek (mP M_X9_send) 66 = k_X9_send_66 := rfl
theorem sk_X9_send_98 : sm_seek (mP M_X9_send) 98 = k_X9_send_98 := rfl
def k_X9_sendOperation_0 : List Ent := (0, .aload_n 0, 1, 0, 0, 0) :: (1, .iload_n 1, 1, 0, 0, 0) :: (2, .iload_n 2, 1, 0, 0, 0) :: (3, .iconst 0, 1, 0, 0, 0) :: (4, .iload_n 3, 1, 0, 0, 0) :: (5, .aload_n 0, 1, 0, 0, 0) :: (6, .getfield 28, 3, 10, 294, 1) :: (9, .iconst 4, 1, 4, 0, 0) :: (10, .iload_n 3, 1, 0, 0, 0) :: (11, .imul, 1, 0, 0, 0) :: (12, .invokevirtual 148, 3, 101, 0, 0) :: (15, .return_, 1, 0, 0, 0) :: []
def M_X9_sendOperation : MI := (yX9_sendOperation, cX9_sendOperation, 4, none, 1, 29, 9, 4, 11, k_X9_sendOperation_0)
def k_X9_moveMessage_57 : List Ent := (57, .return_, 1, 0, 0, 0) :: []
def k_X9_moveMessage_26 : List Ent := (26, .iload_n 3, 1, 0, 0, 0) :: (27, .iconst 4, 1, 4, 0, 0) :: (28, .if_icmp .ge 29, 3, 57, 0, 0) :: (31, .aload_n 0, 1, 0, 0, 0) :: (32, .getfield 68, 3, 10, 307, 1) :: (35, .iconst 4, 1, 4, 0, 0) :: (36, .iload_n 2, 1, 0, 0, 0) :: (37, .imul, 1, 0, 0, 0) :: (38, .iload_n 3, 1, 0, 0, 0) :: (39, .iadd, 1, 0, 0, 0) :: (40, .aload_n 0, 1, 0, 0, 0) :: (41, .getfield 68, 3, 10, 307, 1) :: (44, .iconst 4, 1, 4, 0, 0) :: (45, .iload_n 1, 1, 0, 0, 0) :: (46, .imul, 1, 0, 0, 0) :: (47, .iload_n 3, 1, 0, 0, 0) :: (48, .iadd, 1, 0, 0, 0) :: (49, .iaload, 1, 0, 0, 0) :: (50, .iastore, 1, 0, 0, 0) :: (51, .iinc 3 1, 3, 1, 0, 0) :: (54, .goto (-28), 3, 26, 0, 0) :: k_X9_moveMessage_57
def k_X9_moveMessage_0 : List Ent := (0, .aload_n 0, 1, 0, 0, 0) :: (1, .getfield 62, 3, 10, 305, 1) :: (4, .iload_n 2, 1, 0, 0, 0) :: (5, .aload_n 0, 1, 0, 0, 0) :: (6, .getfield 62, 3, 10, 305, 1) :: (9, .iload_n 1, 1, 0, 0, 0) :: (10, .iaload, 1, 0, 0, 0) :: (11, .iastore, 1, 0, 0, 0) :: (12, .aload_n 0, 1, 0, 0, 0) :: (13, .getfield 65, 3, 10, 306, 1) :: (16, .iload_n 2, 1, 0, 0, 0) :: (17, .aload_n 0, 1, 0, 0, 0) :: (18, .getfield 65, 3, 10, 306, 1) :: (21, .iload_n 1, 1, 0, 0, 0) :: (22, .iaload, 1, 0, 0, 0) :: (23, .iastore, 1, 0, 0, 0) :: (24, .iconst 0, 1, 0, 0, 0) :: (25, .istore_n 3, 1, 0, 0, 0) :: k_X9_moveMessage_26
def M_X9_moveMessage : MI := (yX9_moveMessage, cX9_moveMessage, 4, none, 0, 0, 9, 3, 11, k_X9_moveMessage_0)
theorem sk_X9_moveMessage_26 : sm_seek (mP M_X9_moveMessage) 26 = k_X9_moveMessage_26 := rfl
theorem sk_X9_moveMessage_57 : sm_seek (mP M_X9_moveMessage) 57 = k_X9_moveMessage_57 := rfl
def k_X9_drop_46 : List Ent := (46, .return_, 1, 0, 0, 0) :: []
def k_X9_drop_12 : List Ent := (12, .iload_n 3, 1, 0, 0, 0) :: (13, .aload_n 0, 1, 0, 0, 0) :: (14, .getfield 59, 3, 10, 304, 1) :: (17, .iload_n 1, 1, 0, 0, 0) :: (18, .iaload, 1, 0, 0, 0) :: (19, .if_icmp .ge 27, 3, 46, 0, 0) :: (22, .aload_n 0, 1, 0, 0, 0) :: (23, .bipush 30, 2, 30, 0, 0) :: (25, .iload_n 1, 1, 0, 0, 0) :: (26, .imul, 1, 0, 0, 0) :: (27, .iload_n 3, 1, 0, 0, 0) :: (28, .iadd, 1, 0, 0, 0) :: (29, .iconst 1, 1, 1, 0, 0) :: (30, .iadd, 1, 0, 0, 0) :: (31, .bipush 30, 2, 30, 0, 0) :: (33, .iload_n 1, 1, 0, 0, 0) :: (34, .imul, 1, 0, 0, 0) :: (35, .iload_n 3, 1, 0, 0, 0) :: (36, .iadd, 1, 0, 0, 0) :: (37, .invokevirtual 152, 3, 103, 0, 0) :: (40, .iinc 3 1, 3, 1, 0, 0) :: (43, .goto (-31), 3, 12, 0, 0) :: k_X9_drop_46
def k_X9_drop_0 : List Ent := (0, .aload_n 0, 1, 0, 0, 0) :: (1, .getfield 59, 3, 10, 304, 1) :: (4, .iload_n 1, 1, 0, 0, 0) :: (5, .dup2, 1, 0, 0, 0) :: (6, .iaload, 1, 0, 0, 0) :: (7, .iconst 1, 1, 1, 0, 0) :: (8, .isub, 1, 0, 0, 0) :: (9, .iastore, 1, 0, 0, 0) :: (10, .iload_n 2, 1, 0, 0, 0) :: (11, .istore_n 3, 1, 0, 0, 0) :: k_X9_drop_12
def M_X9_drop : MI := (yX9_drop, cX9_drop, 4, none, 1, 23, 9, 3, 11, k_X9_drop_0)
theorem sk_X9_drop_12 : sm_seek (mP M_X9_drop) 12 = k_X9_drop_12 := rfl
theorem sk_X9_drop_46 : sm_seek (mP M_X9_drop) 46 = k_X9_drop_46 := rfl
def k_X9_knowsOf_33 : List Ent := (33, .ireturn, 1, 0, 0, 0) :: []
def k_X9_knowsOf_18 : List Ent := (18, .aload_n 0, 1, 0, 0, 0) :: (19, .getfield 56, 3, 10, 303, 1) :: (22, .bipush 16, 2, 16, 0, 0) :: (24, .iload_n 1, 1, 0, 0, 0) :: (25, .imul, 1, 0, 0, 0) :: (26, .iconst 4, 1, 4, 0, 0) :: (27, .iload_n 2, 1, 0, 0, 0) :: (28, .imul, 1, 0, 0, 0) :: (29, .iadd, 1, 0, 0, 0) :: (30, .iload_n 3, 1, 0, 0, 0) :: (31, .iadd, 1, 0, 0, 0) :: (32, .iaload, 1, 0, 0, 0) :: k_X9_knowsOf_33
def k_X9_knowsOf_0 : List Ent := (0, .iload_n 1, 1, 0, 0, 0) :: (1, .iload_n 2, 1, 0, 0, 0) :: (2, .if_icmp .ne 16, 3, 18, 0, 0) :: (5, .aload_n 0, 1, 0, 0, 0) :: (6, .getfield 35, 3, 10, 296, 1) :: (9, .iconst 4, 1, 4, 0, 0) :: (10, .iload_n 1, 1, 0, 0, 0) :: (11, .imul, 1, 0, 0, 0) :: (12, .iload_n 3, 1, 0, 0, 0) :: (13, .iadd, 1, 0, 0, 0) :: (14, .iaload, 1, 0, 0, 0) :: (15, .goto 18, 3, 33, 0, 0) :: k_X9_knowsOf_18
def M_X9_knowsOf : MI := (yX9_knowsOf, cX9_knowsOf, 4, (some .int), 0, 0, 9, 4, 11, k_X9_knowsOf_0)
theorem sk_X9_knowsOf_18 : sm_seek (mP M_X9_knowsOf) 18 = k_X9_knowsOf_18 := rfl
theorem sk_X9_knowsOf_33 : sm_seek (mP M_X9_knowsOf) 33 = k_X9_knowsOf_33 := rfl
def k_X9_isLogged_32 : List Ent := (32, .iconst 0, 1, 0, 0, 0) :: (33, .ireturn, 1, 0, 0, 0) :: []
def k_X9_isLogged_26 : List Ent := (26, .iinc 3 1, 3, 1, 0, 0) :: (29, .goto (-27), 3, 2, 0, 0) :: k_X9_isLogged_32
def k_X9_isLogged_2 : List Ent := (2, .iload_n 3, 1, 0, 0, 0) :: (3, .iconst 4, 1, 4, 0, 0) :: (4, .if_icmp .ge 28, 3, 32, 0, 0) :: (7, .aload_n 0, 1, 0, 0, 0) :: (8, .iload_n 1, 1, 0, 0, 0) :: (9, .iload_n 3, 1, 0, 0, 0) :: (10, .iload_n 2, 1, 0, 0, 0) :: (11, .invokestatic 88, 3, 75, 0, 2) :: (14, .invokevirtual 155, 3, 105, 0, 0) :: (17, .iload_n 2, 1, 0, 0, 0) :: (18, .invokestatic 92, 3, 76, 0, 2) :: (21, .if_icmp .ge 5, 3, 26, 0, 0) :: (24, .iconst 1, 1, 1, 0, 0) :: (25, .ireturn, 1, 0, 0, 0) :: k_X9_isLogged_26
def k_X9_isLogged_0 : List Ent := (0, .iconst 0, 1, 0, 0, 0) :: (1, .istore_n 3, 1, 0, 0, 0) :: k_X9_isLogged_2
def M_X9_isLogged : MI := (yX9_isLogged, cX9_isLogged, 4, (some .boolean), 1, 23, 9, 3, 11, k_X9_isLogged_0)
theorem sk_X9_isLogged_2 : sm_seek (mP M_X9_isLogged) 2 = k_X9_isLogged_2 := rfl
theorem sk_X9_isLogged_26 : sm_seek (mP M_X9_isLogged) 26 = k_X9_isLogged_26 := rfl
theorem sk_X9_isLogged_32 : sm_seek (mP M_X9_isLogged) 32 = k_X9_isLogged_32 := rfl
def k_X9_isReady_89 : List Ent := (89, .iload 4, 2, 0, 0, 0) :: (91, .ireturn, 1, 0, 0, 0) :: []
def k_X9_isReady_81 : List Ent := (81, .istore 4, 2, 0, 0, 0) :: (83, .iinc 5 1, 3, 1, 0, 0) :: (86, .goto (-52), 3, 34, 0, 0) :: k_X9_isReady_89
def k_X9_isReady_80 : List Ent := (80, .iconst 0, 1, 0, 0, 0) :: k_X9_isReady_81
def k_X9_isReady_76 : List Ent := (76, .iconst 1, 1, 1, 0, 0) :: (77, .goto 4, 3, 81, 0, 0) :: k_X9_isReady_80
def k_X9_isReady_34 : List Ent := (34, .iload 5, 2, 0, 0, 0) :: (36, .iconst 4, 1, 4, 0, 0) :: (37, .if_icmp .ge 52, 3, 89, 0, 0) :: (40, .iload 4, 2, 0, 0, 0) :: (42, .ifCond .eq 38, 3, 80, 0, 0) :: (45, .iload 5, 2, 0, 0, 0) :: (47, .iload_n 3, 1, 0, 0, 0) :: (48, .if_icmp .eq 28, 3, 76, 0, 0) :: (51, .aload_n 0, 1, 0, 0, 0) :: (52, .getfield 28, 3, 10, 294, 1) :: (55, .iconst 4, 1, 4, 0, 0) :: (56, .iload_n 2, 1, 0, 0, 0) :: (57, .imul, 1, 0, 0, 0) :: (58, .iload 5, 2, 0, 0, 0) :: (60, .iadd, 1, 0, 0, 0) :: (61, .iaload, 1, 0, 0, 0) :: (62, .aload_n 0, 1, 0, 0, 0) :: (63, .getfield 35, 3, 10, 296, 1) :: (66, .iconst 4, 1, 4, 0, 0) :: (67, .iload_n 1, 1, 0, 0, 0) :: (68, .imul, 1, 0, 0, 0) :: (69, .iload 5, 2, 0, 0, 0) :: (71, .iadd, 1, 0, 0, 0) :: (72, .iaload, 1, 0, 0, 0) :: (73, .if_icmp .gt 7, 3, 80, 0, 0) :: k_X9_isReady_76
def k_X9_isReady_29 : List Ent := (29, .istore 4, 2, 0, 0, 0) :: (31, .iconst 0, 1, 0, 0, 0) :: (32, .istore 5, 2, 0, 0, 0) :: k_X9_isReady_34
def k_X9_isReady_28 : List Ent := (28, .iconst 0, 1, 0, 0, 0) :: k_X9_isReady_29
def k_X9_isReady_0 : List Ent := (0, .iload_n 2, 1, 0, 0, 0) :: (1, .invokestatic 88, 3, 75, 0, 2) :: (4, .istore_n 3, 1, 0, 0, 0) :: (5, .iload_n 2, 1, 0, 0, 0) :: (6, .invokestatic 92, 3, 76, 0, 2) :: (9, .aload_n 0, 1, 0, 0, 0) :: (10, .getfield 35, 3, 10, 296, 1) :: (13, .iconst 4, 1, 4, 0, 0) :: (14, .iload_n 1, 1, 0, 0, 0) :: (15, .imul, 1, 0, 0, 0) :: (16, .iload_n 3, 1, 0, 0, 0) :: (17, .iadd, 1, 0, 0, 0) :: (18, .iaload, 1, 0, 0, 0) :: (19, .iconst 1, 1, 1, 0, 0) :: (20, .iadd, 1, 0, 0, 0) :: (21, .if_icmp .ne 7, 3, 28, 0, 0) :: (24, .iconst 1, 1, 1, 0, 0) :: (25, .goto 4, 3, 29, 0, 0) :: k_X9_isReady_28
def M_X9_isReady : MI := (yX9_isReady, cX9_isReady, 6, (some .boolean), 1, 20, 9, 3, 11, k_X9_isReady_0)
theorem sk_X9_isReady_28 : sm_seek (mP M_X9_isReady) 28 = k_X9_isReady_28 := rfl
theorem sk_X9_isReady_29 : sm_seek (mP M_X9_isReady) 29 = k_X9_isReady_29 := rfl
theorem sk_X9_isReady_34 : sm_seek (mP M_X9_isReady) 34 = k_X9_isReady_34 := rfl
theorem sk_X9_isReady_76 : sm_seek (mP M_X9_isReady) 76 = k_X9_isReady_76 := rfl
theorem sk_X9_isReady_80 : sm_seek (mP M_X9_isReady) 80 = k_X9_isReady_80 := rfl
theorem sk_X9_isReady_81 : sm_seek (mP M_X9_isReady) 81 = k_X9_isReady_81 := rfl
theorem sk_X9_isReady_89 : sm_seek (mP M_X9_isReady) 89 = k_X9_isReady_89 := rfl
def k_X9_firstReady_40 : List Ent := (40, .iconst (-1), 1, 1, 1, 0) :: (41, .ireturn, 1, 0, 0, 0) :: []
def k_X9_firstReady_34 : List Ent := (34, .iinc 2 1, 3, 1, 0, 0) :: (37, .goto (-35), 3, 2, 0, 0) :: k_X9_firstReady_40
def k_X9_firstReady_2 : List Ent := (2, .iload_n 2, 1, 0, 0, 0) :: (3, .aload_n 0, 1, 0, 0, 0) :: (4, .getfield 50, 3, 10, 301, 1) :: (7, .iload_n 1, 1, 0, 0, 0) :: (8, .iaload, 1, 0, 0, 0) :: (9, .if_icmp .ge 31, 3, 40, 0, 0) :: (12, .aload_n 0, 1, 0, 0, 0) :: (13, .iload_n 1, 1, 0, 0, 0) :: (14, .aload_n 0, 1, 0, 0, 0) :: (15, .getfield 53, 3, 10, 302, 1) :: (18, .sipush 240, 3, 240, 0, 0) :: (21, .iload_n 1, 1, 0, 0, 0) :: (22, .imul, 1, 0, 0, 0) :: (23, .iload_n 2, 1, 0, 0, 0) :: (24, .iadd, 1, 0, 0, 0) :: (25, .iaload, 1, 0, 0, 0) :: (26, .invokevirtual 158, 3, 107, 0, 0) :: (29, .ifCond .eq 5, 3, 34, 0, 0) :: (32, .iload_n 2, 1, 0, 0, 0) :: (33, .ireturn, 1, 0, 0, 0) :: k_X9_firstReady_34
def k_X9_firstReady_0 : List Ent := (0, .iconst 0, 1, 0, 0, 0) :: (1, .istore_n 2, 1, 0, 0, 0) :: k_X9_firstReady_2
def M_X9_firstReady : MI := (yX9_firstReady, cX9_firstReady, 3, (some .int), 2, 45, 9, 2, 11, k_X9_firstReady_0)
theorem sk_X9_firstReady_2 : sm_seek (mP M_X9_firstReady) 2 = k_X9_firstReady_2 := rfl
theorem sk_X9_firstReady_34 : sm_seek (mP M_X9_firstReady) 34 = k_X9_firstReady_34 := rfl
theorem sk_X9_firstReady_40 : sm_seek (mP M_X9_firstReady) 40 = k_X9_firstReady_40 := rfl
def k_X9_isWaiting_36 : List Ent := (36, .iconst 0, 1, 0, 0, 0) :: (37, .ireturn, 1, 0, 0, 0) :: []
def k_X9_isWaiting_30 : List Ent := (30, .iinc 3 1, 3, 1, 0, 0) :: (33, .goto (-31), 3, 2, 0, 0) :: k_X9_isWaiting_36
def k_X9_isWaiting_2 : List Ent := (2, .iload_n 3, 1, 0, 0, 0) :: (3, .aload_n 0, 1, 0, 0, 0) :: (4, .getfield 50, 3, 10, 301, 1) :: (7, .iload_n 1, 1, 0, 0, 0) :: (8, .iaload, 1, 0, 0, 0) :: (9, .if_icmp .ge 27, 3, 36, 0, 0) :: (12, .aload_n 0, 1, 0, 0, 0) :: (13, .getfield 53, 3, 10, 302, 1) :: (16, .sipush 240, 3, 240, 0, 0) :: (19, .iload_n 1, 1, 0, 0, 0) :: (20, .imul, 1, 0, 0, 0) :: (21, .iload_n 3, 1, 0, 0, 0) :: (22, .iadd, 1, 0, 0, 0) :: (23, .iaload, 1, 0, 0, 0) :: (24, .iload_n 2, 1, 0, 0, 0) :: (25, .if_icmp .ne 5, 3, 30, 0, 0) :: (28, .iconst 1, 1, 1, 0, 0) :: (29, .ireturn, 1, 0, 0, 0) :: k_X9_isWaiting_30
def k_X9_isWaiting_0 : List Ent := (0, .iconst 0, 1, 0, 0, 0) :: (1, .istore_n 3, 1, 0, 0, 0) :: k_X9_isWaiting_2
def M_X9_isWaiting : MI := (yX9_isWaiting, cX9_isWaiting, 4, (some .boolean), 0, 0, 9, 3, 11, k_X9_isWaiting_0)
theorem sk_X9_isWaiting_2 : sm_seek (mP M_X9_isWaiting) 2 = k_X9_isWaiting_2 := rfl
theorem sk_X9_isWaiting_30 : sm_seek (mP M_X9_isWaiting) 30 = k_X9_isWaiting_30 := rfl
theorem sk_X9_isWaiting_36 : sm_seek (mP M_X9_isWaiting) 36 = k_X9_isWaiting_36 := rfl
def k_X9_take__156 : List Ent := (156, .iload_n 3, 1, 0, 0, 0) :: (157, .ireturn, 1, 0, 0, 0) :: []
def k_X9_take__136 : List Ent := (136, .aload_n 0, 1, 0, 0, 0) :: (137, .iload_n 1, 1, 0, 0, 0) :: (138, .iload 5, 2, 0, 0, 0) :: (140, .invokevirtual 95, 3, 80, 0, 0) :: (143, .iinc 3 1, 3, 1, 0, 0) :: (146, .aload_n 0, 1, 0, 0, 0) :: (147, .iload_n 1, 1, 0, 0, 0) :: (148, .invokevirtual 164, 3, 108, 0, 0) :: (151, .istore 4, 2, 0, 0, 0) :: (153, .goto (-96), 3, 57, 0, 0) :: k_X9_take__156
def k_X9_take__91 : List Ent := (91, .iload 6, 2, 0, 0, 0) :: (93, .aload_n 0, 1, 0, 0, 0) :: (94, .getfield 50, 3, 10, 301, 1) :: (97, .iload_n 1, 1, 0, 0, 0) :: (98, .iaload, 1, 0, 0, 0) :: (99, .if_icmp .ge 37, 3, 136, 0, 0) :: (102, .aload_n 0, 1, 0, 0, 0) :: (103, .getfield 53, 3, 10, 302, 1) :: (106, .sipush 240, 3, 240, 0, 0) :: (109, .iload_n 1, 1, 0, 0, 0) :: (110, .imul, 1, 0, 0, 0) :: (111, .iload 6, 2, 0, 0, 0) :: (113, .iadd, 1, 0, 0, 0) :: (114, .aload_n 0, 1, 0, 0, 0) :: (115, .getfield 53, 3, 10, 302, 1) :: (118, .sipush 240, 3, 240, 0, 0) :: (121, .iload_n 1, 1, 0, 0, 0) :: (122, .imul, 1, 0, 0, 0) :: (123, .iload 6, 2, 0, 0, 0) :: (125, .iadd, 1, 0, 0, 0) :: (126, .iconst 1, 1, 1, 0, 0) :: (127, .iadd, 1, 0, 0, 0) :: (128, .iaload, 1, 0, 0, 0) :: (129, .iastore, 1, 0, 0, 0) :: (130, .iinc 6 1, 3, 1, 0, 0) :: (133, .goto (-42), 3, 91, 0, 0) :: k_X9_take__136
def k_X9_take__57 : List Ent := (57, .iload 4, 2, 0, 0, 0) :: (59, .ifCond .lt 97, 3, 156, 0, 0) :: (62, .aload_n 0, 1, 0, 0, 0) :: (63, .getfield 53, 3, 10, 302, 1) :: (66, .sipush 240, 3, 240, 0, 0) :: (69, .iload_n 1, 1, 0, 0, 0) :: (70, .imul, 1, 0, 0, 0) :: (71, .iload 4, 2, 0, 0, 0) :: (73, .iadd, 1, 0, 0, 0) :: (74, .iaload, 1, 0, 0, 0) :: (75, .istore 5, 2, 0, 0, 0) :: (77, .aload_n 0, 1, 0, 0, 0) :: (78, .getfield 50, 3, 10, 301, 1) :: (81, .iload_n 1, 1, 0, 0, 0) :: (82, .dup2, 1, 0, 0, 0) :: (83, .iaload, 1, 0, 0, 0) :: (84, .iconst 1, 1, 1, 0, 0) :: (85, .isub, 1, 0, 0, 0) :: (86, .iastore, 1, 0, 0, 0) :: (87, .iload 4, 2, 0, 0, 0) :: (89, .istore 6, 2, 0, 0, 0) :: k_X9_take__91
def k_X9_take__20 : List Ent := (20, .aload_n 0, 1, 0, 0, 0) :: (21, .getfield 53, 3, 10, 302, 1) :: (24, .sipush 240, 3, 240, 0, 0) :: (27, .iload_n 1, 1, 0, 0, 0) :: (28, .imul, 1, 0, 0, 0) :: (29, .aload_n 0, 1, 0, 0, 0) :: (30, .getfield 50, 3, 10, 301, 1) :: (33, .iload_n 1, 1, 0, 0, 0) :: (34, .iaload, 1, 0, 0, 0) :: (35, .iadd, 1, 0, 0, 0) :: (36, .iload_n 2, 1, 0, 0, 0) :: (37, .iastore, 1, 0, 0, 0) :: (38, .aload_n 0, 1, 0, 0, 0) :: (39, .getfield 50, 3, 10, 301, 1) :: (42, .iload_n 1, 1, 0, 0, 0) :: (43, .dup2, 1, 0, 0, 0) :: (44, .iaload, 1, 0, 0, 0) :: (45, .iconst 1, 1, 1, 0, 0) :: (46, .iadd, 1, 0, 0, 0) :: (47, .iastore, 1, 0, 0, 0) :: (48, .iconst 0, 1, 0, 0, 0) :: (49, .istore_n 3, 1, 0, 0, 0) :: (50, .aload_n 0, 1, 0, 0, 0) :: (51, .iload_n 1, 1, 0, 0, 0) :: (52, .invokevirtual 164, 3, 108, 0, 0) :: (55, .istore 4, 2, 0, 0, 0) :: k_X9_take__57
def k_X9_take__18 : List Ent := (18, .iconst 0, 1, 0, 0, 0) :: (19, .ireturn, 1, 0, 0, 0) :: k_X9_take__20
def k_X9_take__0 : List Ent := (0, .aload_n 0, 1, 0, 0, 0) :: (1, .iload_n 1, 1, 0, 0, 0) :: (2, .iload_n 2, 1, 0, 0, 0) :: (3, .invokevirtual 121, 3, 79, 0, 0) :: (6, .ifCond .ne 12, 3, 18, 0, 0) :: (9, .aload_n 0, 1, 0, 0, 0) :: (10, .iload_n 1, 1, 0, 0, 0) :: (11, .iload_n 2, 1, 0, 0, 0) :: (12, .invokevirtual 161, 3, 109, 0, 0) :: (15, .ifCond .eq 5, 3, 20, 0, 0) :: k_X9_take__18
def M_X9_take_ : MI := (yX9_take_, cX9_take_, 7, (some .int), 3, 67, 9, 3, 11, k_X9_take__0)
theorem sk_X9_take__18 : sm_seek (mP M_X9_take_) 18 = k_X9_take__18 := rfl
theorem sk_X9_take__20 : sm_seek (mP M_X9_take_) 20 = k_X9_take__20 := rfl
theorem sk_X9_take__57 : sm_seek (mP M_X9_take_) 57 = k_X9_take__57 := rfl
theorem sk_X9_take__91 : sm_seek (mP M_X9_take_) 91 = k_X9_take__91 := rfl
theorem sk_X9_take__136 : sm_seek (mP M_X9_take_) 136 = k_X9_take__136 := rfl
theorem sk_X9_take__156 : sm_seek (mP M_X9_take_) 156 = k_X9_take__156 := rfl
def k_X9_answer_68 : List Ent := (68, .aload_n 0, 1, 0, 0, 0) :: (69, .iload_n 1, 1, 0, 0, 0) :: (70, .iload_n 2, 1, 0, 0, 0) :: (71, .iconst 1, 1, 1, 0, 0) :: (72, .iload_n 1, 1, 0, 0, 0) :: (73, .aload_n 0, 1, 0, 0, 0) :: (74, .getfield 35, 3, 10, 296, 1) :: (77, .iconst 4, 1, 4, 0, 0) :: (78, .iload_n 1, 1, 0, 0, 0) :: (79, .imul, 1, 0, 0, 0) :: (80, .invokevirtual 148, 3, 101, 0, 0) :: (83, .return_, 1, 0, 0, 0) :: []
def k_X9_answer_62 : List Ent := (62, .iinc 3 1, 3, 1, 0, 0) :: (65, .goto (-63), 3, 2, 0, 0) :: k_X9_answer_68
def k_X9_answer_2 : List Ent := (2, .iload_n 3, 1, 0, 0, 0) :: (3, .aload_n 0, 1, 0, 0, 0) :: (4, .getfield 41, 3, 10, 298, 1) :: (7, .iload_n 1, 1, 0, 0, 0) :: (8, .iaload, 1, 0, 0, 0) :: (9, .if_icmp .ge 59, 3, 68, 0, 0) :: (12, .aload_n 0, 1, 0, 0, 0) :: (13, .getfield 44, 3, 10, 299, 1) :: (16, .sipush 240, 3, 240, 0, 0) :: (19, .iload_n 1, 1, 0, 0, 0) :: (20, .imul, 1, 0, 0, 0) :: (21, .iload_n 3, 1, 0, 0, 0) :: (22, .iadd, 1, 0, 0, 0) :: (23, .iaload, 1, 0, 0, 0) :: (24, .istore 4, 2, 0, 0, 0) :: (26, .aload_n 0, 1, 0, 0, 0) :: (27, .iload_n 1, 1, 0, 0, 0) :: (28, .iload 4, 2, 0, 0, 0) :: (30, .invokevirtual 167, 3, 106, 0, 0) :: (33, .ifCond .eq 29, 3, 62, 0, 0) :: (36, .aload_n 0, 1, 0, 0, 0) :: (37, .getfield 77, 3, 10, 311, 1) :: (40, .iload 4, 2, 0, 0, 0) :: (42, .invokestatic 88, 3, 75, 0, 2) :: (45, .iaload, 1, 0, 0, 0) :: (46, .iload 4, 2, 0, 0, 0) :: (48, .invokestatic 92, 3, 76, 0, 2) :: (51, .if_icmp .ge 11, 3, 62, 0, 0) :: (54, .aload_n 0, 1, 0, 0, 0) :: (55, .iload_n 1, 1, 0, 0, 0) :: (56, .iload_n 2, 1, 0, 0, 0) :: (57, .iload 4, 2, 0, 0, 0) :: (59, .invokevirtual 99, 3, 102, 0, 0) :: k_X9_answer_62
def k_X9_answer_0 : List Ent := (0, .iconst 0, 1, 0, 0, 0) :: (1, .istore_n 3, 1, 0, 0, 0) :: k_X9_answer_2
def M_X9_answer : MI := (yX9_answer, cX9_answer, 5, none, 2, 52, 9, 3, 11, k_X9_answer_0)
theorem sk_X9_answer_2 : sm_seek (mP M_X9_answer) 2 = k_X9_answer_2 := rfl
theorem sk_X9_answer_62 : sm_seek (mP M_X9_answer) 62 = k_X9_answer_62 := rfl
theorem sk_X9_answer_68 : sm_seek (mP M_X9_answer) 68 = k_X9_answer_68 := rfl
def k_X9_deliver_196 : List Ent := (196, .iconst 0, 1, 0, 0, 0) :: (197, .ireturn, 1, 0, 0, 0) :: []
def k_X9_deliver_184 : List Ent := (184, .iload 6, 2, 0, 0, 0) :: (186, .iconst 2, 1, 2, 0, 0) :: (187, .if_icmp .ne 9, 3, 196, 0, 0) :: (190, .aload_n 0, 1, 0, 0, 0) :: (191, .iload_n 2, 1, 0, 0, 0) :: (192, .iload_n 1, 1, 0, 0, 0) :: (193, .invokevirtual 180, 3, 111, 0, 0) :: k_X9_deliver_196
def k_X9_deliver_164 : List Ent := (164, .aload_n 0, 1, 0, 0, 0) :: (165, .iload 4, 2, 0, 0, 0) :: (167, .iload_n 3, 1, 0, 0, 0) :: (168, .invokevirtual 173, 3, 104, 0, 0) :: (171, .iload 6, 2, 0, 0, 0) :: (173, .ifCond .ne 11, 3, 184, 0, 0) :: (176, .aload_n 0, 1, 0, 0, 0) :: (177, .iload_n 2, 1, 0, 0, 0) :: (178, .iload 7, 2, 0, 0, 0) :: (180, .invokevirtual 176, 3, 110, 0, 0) :: (183, .ireturn, 1, 0, 0, 0) :: k_X9_deliver_184
def k_X9_deliver_157 : List Ent := (157, .iastore, 1, 0, 0, 0) :: (158, .iinc 9 1, 3, 1, 0, 0) :: (161, .goto (-83), 3, 78, 0, 0) :: k_X9_deliver_164
def k_X9_deliver_150 : List Ent := (150, .aload_n 0, 1, 0, 0, 0) :: (151, .getfield 56, 3, 10, 303, 1) :: (154, .iload 10, 2, 0, 0, 0) :: (156, .iaload, 1, 0, 0, 0) :: k_X9_deliver_157
def k_X9_deliver_78 : List Ent := (78, .iload 9, 2, 0, 0, 0) :: (80, .iconst 4, 1, 4, 0, 0) :: (81, .if_icmp .ge 83, 3, 164, 0, 0) :: (84, .aload_n 0, 1, 0, 0, 0) :: (85, .getfield 77, 3, 10, 311, 1) :: (88, .iload 9, 2, 0, 0, 0) :: (90, .aload_n 0, 1, 0, 0, 0) :: (91, .getfield 68, 3, 10, 307, 1) :: (94, .iconst 4, 1, 4, 0, 0) :: (95, .iload 5, 2, 0, 0, 0) :: (97, .imul, 1, 0, 0, 0) :: (98, .iload 9, 2, 0, 0, 0) :: (100, .iadd, 1, 0, 0, 0) :: (101, .iaload, 1, 0, 0, 0) :: (102, .iastore, 1, 0, 0, 0) :: (103, .bipush 16, 2, 16, 0, 0) :: (105, .iload_n 2, 1, 0, 0, 0) :: (106, .imul, 1, 0, 0, 0) :: (107, .iconst 4, 1, 4, 0, 0) :: (108, .iload 8, 2, 0, 0, 0) :: (110, .imul, 1, 0, 0, 0) :: (111, .iadd, 1, 0, 0, 0) :: (112, .iload 9, 2, 0, 0, 0) :: (114, .iadd, 1, 0, 0, 0) :: (115, .istore 10, 2, 0, 0, 0) :: (117, .aload_n 0, 1, 0, 0, 0) :: (118, .getfield 56, 3, 10, 303, 1) :: (121, .iload 10, 2, 0, 0, 0) :: (123, .aload_n 0, 1, 0, 0, 0) :: (124, .getfield 77, 3, 10, 311, 1) :: (127, .iload 9, 2, 0, 0, 0) :: (129, .iaload, 1, 0, 0, 0) :: (130, .aload_n 0, 1, 0, 0, 0) :: (131, .getfield 56, 3, 10, 303, 1) :: (134, .iload 10, 2, 0, 0, 0) :: (136, .iaload, 1, 0, 0, 0) :: (137, .if_icmp .le 13, 3, 150, 0, 0) :: (140, .aload_n 0, 1, 0, 0, 0) :: (141, .getfield 77, 3, 10, 311, 1) :: (144, .iload 9, 2, 0, 0, 0) :: (146, .iaload, 1, 0, 0, 0) :: (147, .goto 10, 3, 157, 0, 0) :: k_X9_deliver_150
def k_X9_deliver_73 : List Ent := (73, .istore 8, 2, 0, 0, 0) :: (75, .iconst 0, 1, 0, 0, 0) :: (76, .istore 9, 2, 0, 0, 0) :: k_X9_deliver_78
def k_X9_deliver_72 : List Ent := (72, .iload_n 1, 1, 0, 0, 0) :: k_X9_deliver_73
def k_X9_deliver_25 : List Ent := (25, .iconst 4, 1, 4, 0, 0) :: (26, .iload_n 1, 1, 0, 0, 0) :: (27, .imul, 1, 0, 0, 0) :: (28, .iload_n 2, 1, 0, 0, 0) :: (29, .iadd, 1, 0, 0, 0) :: (30, .istore 4, 2, 0, 0, 0) :: (32, .bipush 30, 2, 30, 0, 0) :: (34, .iload 4, 2, 0, 0, 0) :: (36, .imul, 1, 0, 0, 0) :: (37, .iload_n 3, 1, 0, 0, 0) :: (38, .iadd, 1, 0, 0, 0) :: (39, .istore 5, 2, 0, 0, 0) :: (41, .aload_n 0, 1, 0, 0, 0) :: (42, .getfield 62, 3, 10, 305, 1) :: (45, .iload 5, 2, 0, 0, 0) :: (47, .iaload, 1, 0, 0, 0) :: (48, .istore 6, 2, 0, 0, 0) :: (50, .aload_n 0, 1, 0, 0, 0) :: (51, .getfield 65, 3, 10, 306, 1) :: (54, .iload 5, 2, 0, 0, 0) :: (56, .iaload, 1, 0, 0, 0) :: (57, .istore 7, 2, 0, 0, 0) :: (59, .iload 6, 2, 0, 0, 0) :: (61, .ifCond .ne 11, 3, 72, 0, 0) :: (64, .iload 7, 2, 0, 0, 0) :: (66, .invokestatic 88, 3, 75, 0, 2) :: (69, .goto 4, 3, 73, 0, 0) :: k_X9_deliver_72
def k_X9_deliver_13 : List Ent := (13, .aload_n 0, 1, 0, 0, 0) :: (14, .getfield 31, 3, 10, 295, 1) :: (17, .iload_n 2, 1, 0, 0, 0) :: (18, .baload, 1, 0, 0, 0) :: (19, .ifCond .ne 6, 3, 25, 0, 0) :: (22, .bipush (-4), 2, 4, 1, 0) :: (24, .ireturn, 1, 0, 0, 0) :: k_X9_deliver_25
def k_X9_deliver_0 : List Ent := (0, .aload_n 0, 1, 0, 0, 0) :: (1, .iload_n 1, 1, 0, 0, 0) :: (2, .iload_n 2, 1, 0, 0, 0) :: (3, .iload_n 3, 1, 0, 0, 0) :: (4, .invokevirtual 170, 3, 100, 0, 0) :: (7, .ifCond .ne 6, 3, 13, 0, 0) :: (10, .bipush (-2), 2, 2, 1, 0) :: (12, .ireturn, 1, 0, 0, 0) :: k_X9_deliver_13
def M_X9_deliver : MI := (yX9_deliver, cX9_deliver, 11, (some .int), 4, 93, 9, 4, 11, k_X9_deliver_0)
theorem sk_X9_deliver_13 : sm_seek (mP M_X9_deliver) 13 = k_X9_deliver_13 := rfl
theorem sk_X9_deliver_25 : sm_seek (mP M_X9_deliver) 25 = k_X9_deliver_25 := rfl
theorem sk_X9_deliver_72 : sm_seek (mP M_X9_deliver) 72 = k_X9_deliver_72 := rfl
theorem sk_X9_deliver_73 : sm_seek (mP M_X9_deliver) 73 = k_X9_deliver_73 := rfl
theorem sk_X9_deliver_78 : sm_seek (mP M_X9_deliver) 78 = k_X9_deliver_78 := rfl
theorem sk_X9_deliver_150 : sm_seek (mP M_X9_deliver) 150 = k_X9_deliver_150 := rfl
theorem sk_X9_deliver_157 : sm_seek (mP M_X9_deliver) 157 = k_X9_deliver_157 := rfl
theorem sk_X9_deliver_164 : sm_seek (mP M_X9_deliver) 164 = k_X9_deliver_164 := rfl
theorem sk_X9_deliver_184 : sm_seek (mP M_X9_deliver) 184 = k_X9_deliver_184 := rfl
theorem sk_X9_deliver_196 : sm_seek (mP M_X9_deliver) 196 = k_X9_deliver_196 := rfl
def k_X9_copy_35 : List Ent := (35, .aload_n 0, 1, 0, 0, 0) :: (36, .bipush 30, 2, 30, 0, 0) :: (38, .iload 4, 2, 0, 0, 0) :: (40, .imul, 1, 0, 0, 0) :: (41, .iload_n 3, 1, 0, 0, 0) :: (42, .iadd, 1, 0, 0, 0) :: (43, .bipush 30, 2, 30, 0, 0) :: (45, .iload 4, 2, 0, 0, 0) :: (47, .imul, 1, 0, 0, 0) :: (48, .aload_n 0, 1, 0, 0, 0) :: (49, .getfield 59, 3, 10, 304, 1) :: (52, .iload 4, 2, 0, 0, 0) :: (54, .iaload, 1, 0, 0, 0) :: (55, .iadd, 1, 0, 0, 0) :: (56, .invokevirtual 152, 3, 103, 0, 0) :: (59, .aload_n 0, 1, 0, 0, 0) :: (60, .getfield 59, 3, 10, 304, 1) :: (63, .iload 4, 2, 0, 0, 0) :: (65, .dup2, 1, 0, 0, 0) :: (66, .iaload, 1, 0, 0, 0) :: (67, .iconst 1, 1, 1, 0, 0) :: (68, .iadd, 1, 0, 0, 0) :: (69, .iastore, 1, 0, 0, 0) :: (70, .aload_n 0, 1, 0, 0, 0) :: (71, .getfield 59, 3, 10, 304, 1) :: (74, .iload 4, 2, 0, 0, 0) :: (76, .iaload, 1, 0, 0, 0) :: (77, .ireturn, 1, 0, 0, 0) :: []
def k_X9_copy_13 : List Ent := (13, .iconst 4, 1, 4, 0, 0) :: (14, .iload_n 1, 1, 0, 0, 0) :: (15, .imul, 1, 0, 0, 0) :: (16, .iload_n 2, 1, 0, 0, 0) :: (17, .iadd, 1, 0, 0, 0) :: (18, .istore 4, 2, 0, 0, 0) :: (20, .aload_n 0, 1, 0, 0, 0) :: (21, .getfield 59, 3, 10, 304, 1) :: (24, .iload 4, 2, 0, 0, 0) :: (26, .iaload, 1, 0, 0, 0) :: (27, .bipush 30, 2, 30, 0, 0) :: (29, .if_icmp .ne 6, 3, 35, 0, 0) :: (32, .bipush (-3), 2, 3, 1, 0) :: (34, .ireturn, 1, 0, 0, 0) :: k_X9_copy_35
def k_X9_copy_0 : List Ent := (0, .aload_n 0, 1, 0, 0, 0) :: (1, .iload_n 1, 1, 0, 0, 0) :: (2, .iload_n 2, 1, 0, 0, 0) :: (3, .iload_n 3, 1, 0, 0, 0) :: (4, .invokevirtual 170, 3, 100, 0, 0) :: (7, .ifCond .ne 6, 3, 13, 0, 0) :: (10, .bipush (-2), 2, 2, 1, 0) :: (12, .ireturn, 1, 0, 0, 0) :: k_X9_copy_13
def M_X9_copy : MI := (yX9_copy, cX9_copy, 5, (some .int), 4, 86, 9, 4, 11, k_X9_copy_0)
theorem sk_X9_copy_13 : sm_seek (mP M_X9_copy) 13 = k_X9_copy_13 := rfl
theorem sk_X9_copy_35 : sm_seek (mP M_X9_copy) 35 = k_X9_copy_35 := rfl
def k_X9_lose_13 : List Ent := (13, .aload_n 0, 1, 0, 0, 0) :: (14, .iconst 4, 1, 4, 0, 0) :: (15, .iload_n 1, 1, 0, 0, 0) :: (16, .imul, 1, 0, 0, 0) :: (17, .iload_n 2, 1, 0, 0, 0) :: (18, .iadd, 1, 0, 0, 0) :: (19, .iload_n 3, 1, 0, 0, 0) :: (20, .invokevirtual 173, 3, 104, 0, 0) :: (23, .aload_n 0, 1, 0, 0, 0) :: (24, .getfield 59, 3, 10, 304, 1) :: (27, .iconst 4, 1, 4, 0, 0) :: (28, .iload_n 1, 1, 0, 0, 0) :: (29, .imul, 1, 0, 0, 0) :: (30, .iload_n 2, 1, 0, 0, 0) :: (31, .iadd, 1, 0, 0, 0) :: (32, .iaload, 1, 0, 0, 0) :: (33, .ireturn, 1, 0, 0, 0) :: []
def k_X9_lose_0 : List Ent := (0, .aload_n 0, 1, 0, 0, 0) :: (1, .iload_n 1, 1, 0, 0, 0) :: (2, .iload_n 2, 1, 0, 0, 0) :: (3, .iload_n 3, 1, 0, 0, 0) :: (4, .invokevirtual 170, 3, 100, 0, 0) :: (7, .ifCond .ne 6, 3, 13, 0, 0) :: (10, .bipush (-2), 2, 2, 1, 0) :: (12, .ireturn, 1, 0, 0, 0) :: k_X9_lose_13
def M_X9_lose : MI := (yX9_lose, cX9_lose, 4, (some .int), 4, 86, 9, 4, 11, k_X9_lose_0)
theorem sk_X9_lose_13 : sm_seek (mP M_X9_lose) 13 = k_X9_lose_13 := rfl
def k_X9_speak_41 : List Ent := (41, .aload_n 0, 1, 0, 0, 0) :: (42, .iload_n 1, 1, 0, 0, 0) :: (43, .iload_n 2, 1, 0, 0, 0) :: (44, .iload_n 3, 1, 0, 0, 0) :: (45, .iload_n 1, 1, 0, 0, 0) :: (46, .aload_n 0, 1, 0, 0, 0) :: (47, .getfield 35, 3, 10, 296, 1) :: (50, .iconst 4, 1, 4, 0, 0) :: (51, .iload_n 1, 1, 0, 0, 0) :: (52, .imul, 1, 0, 0, 0) :: (53, .invokevirtual 148, 3, 101, 0, 0) :: (56, .aload_n 0, 1, 0, 0, 0) :: (57, .getfield 59, 3, 10, 304, 1) :: (60, .iconst 4, 1, 4, 0, 0) :: (61, .iload_n 1, 1, 0, 0, 0) :: (62, .imul, 1, 0, 0, 0) :: (63, .iload_n 2, 1, 0, 0, 0) :: (64, .iadd, 1, 0, 0, 0) :: (65, .iaload, 1, 0, 0, 0) :: (66, .ireturn, 1, 0, 0, 0) :: []
def k_X9_speak_23 : List Ent := (23, .aload_n 0, 1, 0, 0, 0) :: (24, .getfield 59, 3, 10, 304, 1) :: (27, .iconst 4, 1, 4, 0, 0) :: (28, .iload_n 1, 1, 0, 0, 0) :: (29, .imul, 1, 0, 0, 0) :: (30, .iload_n 2, 1, 0, 0, 0) :: (31, .iadd, 1, 0, 0, 0) :: (32, .iaload, 1, 0, 0, 0) :: (33, .bipush 30, 2, 30, 0, 0) :: (35, .if_icmp .ne 6, 3, 41, 0, 0) :: (38, .bipush (-3), 2, 3, 1, 0) :: (40, .ireturn, 1, 0, 0, 0) :: k_X9_speak_41
def k_X9_speak_11 : List Ent := (11, .aload_n 0, 1, 0, 0, 0) :: (12, .getfield 31, 3, 10, 295, 1) :: (15, .iload_n 1, 1, 0, 0, 0) :: (16, .baload, 1, 0, 0, 0) :: (17, .ifCond .ne 6, 3, 23, 0, 0) :: (20, .bipush (-4), 2, 4, 1, 0) :: (22, .ireturn, 1, 0, 0, 0) :: k_X9_speak_23
def k_X9_speak_0 : List Ent := (0, .iload_n 1, 1, 0, 0, 0) :: (1, .iload_n 2, 1, 0, 0, 0) :: (2, .invokestatic 145, 3, 99, 0, 2) :: (5, .ifCond .ne 6, 3, 11, 0, 0) :: (8, .bipush (-2), 2, 2, 1, 0) :: (10, .ireturn, 1, 0, 0, 0) :: k_X9_speak_11
def M_X9_speak : MI := (yX9_speak, cX9_speak, 4, (some .int), 3, 63, 9, 4, 11, k_X9_speak_0)
theorem sk_X9_speak_11 : sm_seek (mP M_X9_speak) 11 = k_X9_speak_11 := rfl
theorem sk_X9_speak_23 : sm_seek (mP M_X9_speak) 23 = k_X9_speak_23 := rfl
theorem sk_X9_speak_41 : sm_seek (mP M_X9_speak) 41 = k_X9_speak_41 := rfl
def k_X9_ask_0 : List Ent := (0, .aload_n 0, 1, 0, 0, 0) :: (1, .iload_n 1, 1, 0, 0, 0) :: (2, .iload_n 2, 1, 0, 0, 0) :: (3, .iconst 2, 1, 2, 0, 0) :: (4, .invokevirtual 183, 3, 115, 0, 0) :: (7, .ireturn, 1, 0, 0, 0) :: []
def M_X9_ask : MI := (yX9_ask, cX9_ask, 3, (some .int), 4, 86, 9, 3, 11, k_X9_ask_0)
def k_X9_tell_0 : List Ent := (0, .aload_n 0, 1, 0, 0, 0) :: (1, .iload_n 1, 1, 0, 0, 0) :: (2, .iload_n 2, 1, 0, 0, 0) :: (3, .iconst 1, 1, 1, 0, 0) :: (4, .invokevirtual 183, 3, 115, 0, 0) :: (7, .ireturn, 1, 0, 0, 0) :: []
def M_X9_tell : MI := (yX9_tell, cX9_tell, 3, (some .int), 4, 86, 9, 3, 11, k_X9_tell_0)
def k_X9_power_24 : List Ent := (24, .istore_n 3, 1, 0, 0, 0) :: (25, .aload_n 0, 1, 0, 0, 0) :: (26, .getfield 31, 3, 10, 295, 1) :: (29, .iload_n 1, 1, 0, 0, 0) :: (30, .iload_n 2, 1, 0, 0, 0) :: (31, .bastore, 1, 0, 0, 0) :: (32, .iload_n 3, 1, 0, 0, 0) :: (33, .ireturn, 1, 0, 0, 0) :: []
def k_X9_power_23 : List Ent := (23, .iconst 0, 1, 0, 0, 0) :: k_X9_power_24
def k_X9_power_10 : List Ent := (10, .aload_n 0, 1, 0, 0, 0) :: (11, .getfield 31, 3, 10, 295, 1) :: (14, .iload_n 1, 1, 0, 0, 0) :: (15, .baload, 1, 0, 0, 0) :: (16, .ifCond .eq 7, 3, 23, 0, 0) :: (19, .iconst 1, 1, 1, 0, 0) :: (20, .goto 4, 3, 24, 0, 0) :: k_X9_power_23
def k_X9_power_0 : List Ent := (0, .iload_n 1, 1, 0, 0, 0) :: (1, .invokestatic 103, 3, 73, 0, 2) :: (4, .ifCond .ne 6, 3, 10, 0, 0) :: (7, .bipush (-2), 2, 2, 1, 0) :: (9, .ireturn, 1, 0, 0, 0) :: k_X9_power_10
def M_X9_power : MI := (yX9_power, cX9_power, 4, (some .int), 2, 42, 9, 3, 11, k_X9_power_0)
theorem sk_X9_power_10 : sm_seek (mP M_X9_power) 10 = k_X9_power_10 := rfl
theorem sk_X9_power_23 : sm_seek (mP M_X9_power) 23 = k_X9_power_23 := rfl
theorem sk_X9_power_24 : sm_seek (mP M_X9_power) 24 = k_X9_power_24 := rfl
def k_X9_clock_29 : List Ent := (29, .ireturn, 1, 0, 0, 0) :: []
def k_X9_clock_27 : List Ent := (27, .bipush (-2), 2, 2, 1, 0) :: k_X9_clock_29
def k_X9_clock_0 : List Ent := (0, .iload_n 1, 1, 0, 0, 0) :: (1, .invokestatic 103, 3, 73, 0, 2) :: (4, .ifCond .eq 23, 3, 27, 0, 0) :: (7, .iload_n 2, 1, 0, 0, 0) :: (8, .invokestatic 103, 3, 73, 0, 2) :: (11, .ifCond .eq 16, 3, 27, 0, 0) :: (14, .aload_n 0, 1, 0, 0, 0) :: (15, .getfield 35, 3, 10, 296, 1) :: (18, .iconst 4, 1, 4, 0, 0) :: (19, .iload_n 1, 1, 0, 0, 0) :: (20, .imul, 1, 0, 0, 0) :: (21, .iload_n 2, 1, 0, 0, 0) :: (22, .iadd, 1, 0, 0, 0) :: (23, .iaload, 1, 0, 0, 0) :: (24, .goto 5, 3, 29, 0, 0) :: k_X9_clock_27
def M_X9_clock : MI := (yX9_clock, cX9_clock, 3, (some .int), 2, 42, 9, 3, 11, k_X9_clock_0)
theorem sk_X9_clock_27 : sm_seek (mP M_X9_clock) 27 = k_X9_clock_27 := rfl
theorem sk_X9_clock_29 : sm_seek (mP M_X9_clock) 29 = k_X9_clock_29 := rfl
def k_X9_knows_33 : List Ent := (33, .ireturn, 1, 0, 0, 0) :: []
def k_X9_knows_31 : List Ent := (31, .bipush (-2), 2, 2, 1, 0) :: k_X9_knows_33
def k_X9_knows_0 : List Ent := (0, .iload_n 1, 1, 0, 0, 0) :: (1, .invokestatic 103, 3, 73, 0, 2) :: (4, .ifCond .eq 27, 3, 31, 0, 0) :: (7, .iload_n 2, 1, 0, 0, 0) :: (8, .invokestatic 103, 3, 73, 0, 2) :: (11, .ifCond .eq 20, 3, 31, 0, 0) :: (14, .iload_n 3, 1, 0, 0, 0) :: (15, .invokestatic 103, 3, 73, 0, 2) :: (18, .ifCond .eq 13, 3, 31, 0, 0) :: (21, .aload_n 0, 1, 0, 0, 0) :: (22, .iload_n 1, 1, 0, 0, 0) :: (23, .iload_n 2, 1, 0, 0, 0) :: (24, .iload_n 3, 1, 0, 0, 0) :: (25, .invokevirtual 155, 3, 105, 0, 0) :: (28, .goto 5, 3, 33, 0, 0) :: k_X9_knows_31
def M_X9_knows : MI := (yX9_knows, cX9_knows, 4, (some .int), 2, 42, 9, 4, 11, k_X9_knows_0)
theorem sk_X9_knows_31 : sm_seek (mP M_X9_knows) 31 = k_X9_knows_31 := rfl
theorem sk_X9_knows_33 : sm_seek (mP M_X9_knows) 33 = k_X9_knows_33 := rfl
def k_X9_charactersOf_44 : List Ent := (44, .iload_n 2, 1, 0, 0, 0) :: (45, .ireturn, 1, 0, 0, 0) :: []
def k_X9_charactersOf_37 : List Ent := (37, .istore_n 2, 1, 0, 0, 0) :: (38, .iinc 3 1, 3, 1, 0, 0) :: (41, .goto (-37), 3, 4, 0, 0) :: k_X9_charactersOf_44
def k_X9_charactersOf_36 : List Ent := (36, .iload_n 2, 1, 0, 0, 0) :: k_X9_charactersOf_37
def k_X9_charactersOf_4 : List Ent := (4, .iload_n 3, 1, 0, 0, 0) :: (5, .sipush 240, 3, 240, 0, 0) :: (8, .if_icmp .ge 36, 3, 44, 0, 0) :: (11, .aload_n 0, 1, 0, 0, 0) :: (12, .iload_n 1, 1, 0, 0, 0) :: (13, .iload_n 3, 1, 0, 0, 0) :: (14, .invokevirtual 121, 3, 79, 0, 0) :: (17, .ifCond .eq 19, 3, 36, 0, 0) :: (20, .aload_n 0, 1, 0, 0, 0) :: (21, .getfield 13, 3, 10, 289, 1) :: (24, .iload_n 3, 1, 0, 0, 0) :: (25, .iaload, 1, 0, 0, 0) :: (26, .iconst 4, 1, 4, 0, 0) :: (27, .if_icmp .ne 9, 3, 36, 0, 0) :: (30, .iload_n 2, 1, 0, 0, 0) :: (31, .iconst 1, 1, 1, 0, 0) :: (32, .iadd, 1, 0, 0, 0) :: (33, .goto 4, 3, 37, 0, 0) :: k_X9_charactersOf_36
def k_X9_charactersOf_0 : List Ent := (0, .iconst 0, 1, 0, 0, 0) :: (1, .istore_n 2, 1, 0, 0, 0) :: (2, .iconst 0, 1, 0, 0, 0) :: (3, .istore_n 3, 1, 0, 0, 0) :: k_X9_charactersOf_4
def M_X9_charactersOf : MI := (yX9_charactersOf, cX9_charactersOf, 4, (some .int), 1, 22, 9, 2, 11, k_X9_charactersOf_0)
theorem sk_X9_charactersOf_4 : sm_seek (mP M_X9_charactersOf) 4 = k_X9_charactersOf_4 := rfl
theorem sk_X9_charactersOf_36 : sm_seek (mP M_X9_charactersOf) 36 = k_X9_charactersOf_36 := rfl
theorem sk_X9_charactersOf_37 : sm_seek (mP M_X9_charactersOf) 37 = k_X9_charactersOf_37 := rfl
theorem sk_X9_charactersOf_44 : sm_seek (mP M_X9_charactersOf) 44 = k_X9_charactersOf_44 := rfl
def k_X9_count_182 : List Ent := (182, .ireturn, 1, 0, 0, 0) :: []
def k_X9_count_177 : List Ent := (177, .iload 4, 2, 0, 0, 0) :: (179, .invokestatic 92, 3, 76, 0, 2) :: k_X9_count_182
def k_X9_count_168 : List Ent := (168, .iload 4, 2, 0, 0, 0) :: (170, .ifCond .ge 7, 3, 177, 0, 0) :: (173, .iconst (-1), 1, 1, 1, 0) :: (174, .goto 8, 3, 182, 0, 0) :: k_X9_count_177
def k_X9_count_167 : List Ent := (167, .ireturn, 1, 0, 0, 0) :: k_X9_count_168
def k_X9_count_162 : List Ent := (162, .iload 4, 2, 0, 0, 0) :: (164, .invokestatic 88, 3, 75, 0, 2) :: k_X9_count_167
def k_X9_count_153 : List Ent := (153, .iload 4, 2, 0, 0, 0) :: (155, .ifCond .ge 7, 3, 162, 0, 0) :: (158, .iconst (-1), 1, 1, 1, 0) :: (159, .goto 8, 3, 167, 0, 0) :: k_X9_count_162
def k_X9_count_147 : List Ent := (147, .aload_n 0, 1, 0, 0, 0) :: (148, .iload_n 1, 1, 0, 0, 0) :: (149, .invokevirtual 186, 3, 121, 0, 0) :: (152, .ireturn, 1, 0, 0, 0) :: k_X9_count_153
def k_X9_count_146 : List Ent := (146, .ireturn, 1, 0, 0, 0) :: k_X9_count_147
def k_X9_count_145 : List Ent := (145, .iconst 0, 1, 0, 0, 0) :: k_X9_count_146
def k_X9_count_132 : List Ent := (132, .aload_n 0, 1, 0, 0, 0) :: (133, .getfield 31, 3, 10, 295, 1) :: (136, .iload_n 1, 1, 0, 0, 0) :: (137, .baload, 1, 0, 0, 0) :: (138, .ifCond .eq 7, 3, 145, 0, 0) :: (141, .iconst 1, 1, 1, 0, 0) :: (142, .goto 4, 3, 146, 0, 0) :: k_X9_count_145
def k_X9_count_125 : List Ent := (125, .aload_n 0, 1, 0, 0, 0) :: (126, .getfield 50, 3, 10, 301, 1) :: (129, .iload_n 1, 1, 0, 0, 0) :: (130, .iaload, 1, 0, 0, 0) :: (131, .ireturn, 1, 0, 0, 0) :: k_X9_count_132
def k_X9_count_123 : List Ent := (123, .iload_n 3, 1, 0, 0, 0) :: (124, .ireturn, 1, 0, 0, 0) :: k_X9_count_125
def k_X9_count_116 : List Ent := (116, .aload_n 0, 1, 0, 0, 0) :: (117, .getfield 38, 3, 10, 297, 1) :: (120, .iload_n 1, 1, 0, 0, 0) :: (121, .iaload, 1, 0, 0, 0) :: (122, .ireturn, 1, 0, 0, 0) :: k_X9_count_123
def k_X9_count_78 : List Ent := (78, .iload_n 2, 1, 0, 0, 0) :: (79, .tableswitch 89 0 5 #[37, 44, 46, 53, 68, 74], 37, 0, 0, 0) :: k_X9_count_116
def k_X9_count_72 : List Ent := (72, .iinc 5 (-1), 3, 1, 1, 0) :: (75, .goto (-40), 3, 35, 0, 0) :: k_X9_count_78
def k_X9_count_35 : List Ent := (35, .iload 5, 2, 0, 0, 0) :: (37, .ifCond .lt 41, 3, 78, 0, 0) :: (40, .aload_n 0, 1, 0, 0, 0) :: (41, .getfield 44, 3, 10, 299, 1) :: (44, .sipush 240, 3, 240, 0, 0) :: (47, .iload_n 1, 1, 0, 0, 0) :: (48, .imul, 1, 0, 0, 0) :: (49, .iload 5, 2, 0, 0, 0) :: (51, .iadd, 1, 0, 0, 0) :: (52, .iaload, 1, 0, 0, 0) :: (53, .istore 6, 2, 0, 0, 0) :: (55, .aload_n 0, 1, 0, 0, 0) :: (56, .iload_n 1, 1, 0, 0, 0) :: (57, .iload 6, 2, 0, 0, 0) :: (59, .invokevirtual 167, 3, 106, 0, 0) :: (62, .ifCond .eq 10, 3, 72, 0, 0) :: (65, .iinc 3 1, 3, 1, 0, 0) :: (68, .iload 6, 2, 0, 0, 0) :: (70, .istore 4, 2, 0, 0, 0) :: k_X9_count_72
def k_X9_count_20 : List Ent := (20, .iconst 0, 1, 0, 0, 0) :: (21, .istore_n 3, 1, 0, 0, 0) :: (22, .iconst (-1), 1, 1, 1, 0) :: (23, .istore 4, 2, 0, 0, 0) :: (25, .aload_n 0, 1, 0, 0, 0) :: (26, .getfield 41, 3, 10, 298, 1) :: (29, .iload_n 1, 1, 0, 0, 0) :: (30, .iaload, 1, 0, 0, 0) :: (31, .iconst 1, 1, 1, 0, 0) :: (32, .isub, 1, 0, 0, 0) :: (33, .istore 5, 2, 0, 0, 0) :: k_X9_count_35
def k_X9_count_17 : List Ent := (17, .bipush (-2), 2, 2, 1, 0) :: (19, .ireturn, 1, 0, 0, 0) :: k_X9_count_20
def k_X9_count_0 : List Ent := (0, .iload_n 1, 1, 0, 0, 0) :: (1, .invokestatic 103, 3, 73, 0, 2) :: (4, .ifCond .eq 13, 3, 17, 0, 0) :: (7, .iload_n 2, 1, 0, 0, 0) :: (8, .iconst 0, 1, 0, 0, 0) :: (9, .bipush 6, 2, 6, 0, 0) :: (11, .invokestatic 84, 3, 72, 0, 2) :: (14, .ifCond .ne 6, 3, 20, 0, 0) :: k_X9_count_17
def M_X9_count : MI := (yX9_count, cX9_count, 7, (some .int), 2, 46, 9, 3, 11, k_X9_count_0)
theorem sk_X9_count_17 : sm_seek (mP M_X9_count) 17 = k_X9_count_17 := rfl
theorem sk_X9_count_20 : sm_seek (mP M_X9_count) 20 = k_X9_count_20 := rfl
theorem sk_X9_count_35 : sm_seek (mP M_X9_count) 35 = k_X9_count_35 := rfl
theorem sk_X9_count_72 : sm_seek (mP M_X9_count) 72 = k_X9_count_72 := rfl
theorem sk_X9_count_78 : sm_seek (mP M_X9_count) 78 = k_X9_count_78 := rfl
theorem sk_X9_count_116 : sm_seek (mP M_X9_count) 116 = k_X9_count_116 := rfl
theorem sk_X9_count_123 : sm_seek (mP M_X9_count) 123 = k_X9_count_123 := rfl
theorem sk_X9_count_125 : sm_seek (mP M_X9_count) 125 = k_X9_count_125 := rfl
theorem sk_X9_count_132 : sm_seek (mP M_X9_count) 132 = k_X9_count_132 := rfl
theorem sk_X9_count_145 : sm_seek (mP M_X9_count) 145 = k_X9_count_145 := rfl
theorem sk_X9_count_146 : sm_seek (mP M_X9_count) 146 = k_X9_count_146 := rfl
theorem sk_X9_count_147 : sm_seek (mP M_X9_count) 147 = k_X9_count_147 := rfl
theorem sk_X9_count_153 : sm_seek (mP M_X9_count) 153 = k_X9_count_153 := rfl
theorem sk_X9_count_162 : sm_seek (mP M_X9_count) 162 = k_X9_count_162 := rfl
theorem sk_X9_count_167 : sm_seek (mP M_X9_count) 167 = k_X9_count_167 := rfl
theorem sk_X9_count_168 : sm_seek (mP M_X9_count) 168 = k_X9_count_168 := rfl
theorem sk_X9_count_177 : sm_seek (mP M_X9_count) 177 = k_X9_count_177 := rfl
theorem sk_X9_count_182 : sm_seek (mP M_X9_count) 182 = k_X9_count_182 := rfl
def k_X9_message_160 : List Ent := (160, .aload_n 0, 1, 0, 0, 0) :: (161, .getfield 68, 3, 10, 307, 1) :: (164, .iconst 4, 1, 4, 0, 0) :: (165, .iload 5, 2, 0, 0, 0) :: (167, .imul, 1, 0, 0, 0) :: (168, .iload 4, 2, 0, 0, 0) :: (170, .iadd, 1, 0, 0, 0) :: (171, .iconst 4, 1, 4, 0, 0) :: (172, .isub, 1, 0, 0, 0) :: (173, .iaload, 1, 0, 0, 0) :: (174, .ireturn, 1, 0, 0, 0) :: []
def k_X9_message_159 : List Ent := (159, .ireturn, 1, 0, 0, 0) :: k_X9_message_160
def k_X9_message_158 : List Ent := (158, .iconst 0, 1, 0, 0, 0) :: k_X9_message_159
def k_X9_message_143 : List Ent := (143, .iload 6, 2, 0, 0, 0) :: (145, .ifCond .eq 13, 3, 158, 0, 0) :: (148, .aload_n 0, 1, 0, 0, 0) :: (149, .getfield 25, 3, 10, 293, 1) :: (152, .iload 7, 2, 0, 0, 0) :: (154, .iaload, 1, 0, 0, 0) :: (155, .goto 4, 3, 159, 0, 0) :: k_X9_message_158
def k_X9_message_142 : List Ent := (142, .ireturn, 1, 0, 0, 0) :: k_X9_message_143
def k_X9_message_141 : List Ent := (141, .iconst 0, 1, 0, 0, 0) :: k_X9_message_142
def k_X9_message_128 : List Ent := (128, .iload 6, 2, 0, 0, 0) :: (130, .ifCond .eq 11, 3, 141, 0, 0) :: (133, .iload 7, 2, 0, 0, 0) :: (135, .invokestatic 92, 3, 76, 0, 2) :: (138, .goto 4, 3, 142, 0, 0) :: k_X9_message_141
def k_X9_message_127 : List Ent := (127, .ireturn, 1, 0, 0, 0) :: k_X9_message_128
def k_X9_message_125 : List Ent := (125, .iload 7, 2, 0, 0, 0) :: k_X9_message_127
def k_X9_message_112 : List Ent := (112, .iload 6, 2, 0, 0, 0) :: (114, .ifCond .eq 11, 3, 125, 0, 0) :: (117, .iload 7, 2, 0, 0, 0) :: (119, .invokestatic 88, 3, 75, 0, 2) :: (122, .goto 5, 3, 127, 0, 0) :: k_X9_message_125
def k_X9_message_104 : List Ent := (104, .aload_n 0, 1, 0, 0, 0) :: (105, .getfield 62, 3, 10, 305, 1) :: (108, .iload 5, 2, 0, 0, 0) :: (110, .iaload, 1, 0, 0, 0) :: (111, .ireturn, 1, 0, 0, 0) :: k_X9_message_112
def k_X9_message_61 : List Ent := (61, .istore 6, 2, 0, 0, 0) :: (63, .aload_n 0, 1, 0, 0, 0) :: (64, .getfield 65, 3, 10, 306, 1) :: (67, .iload 5, 2, 0, 0, 0) :: (69, .iaload, 1, 0, 0, 0) :: (70, .istore 7, 2, 0, 0, 0) :: (72, .iload 4, 2, 0, 0, 0) :: (74, .tableswitch 86 0 3 #[30, 38, 54, 69], 30, 0, 0, 0) :: k_X9_message_104
def k_X9_message_60 : List Ent := (60, .iconst 0, 1, 0, 0, 0) :: k_X9_message_61
def k_X9_message_34 : List Ent := (34, .bipush 30, 2, 30, 0, 0) :: (36, .iconst 4, 1, 4, 0, 0) :: (37, .iload_n 1, 1, 0, 0, 0) :: (38, .imul, 1, 0, 0, 0) :: (39, .iload_n 2, 1, 0, 0, 0) :: (40, .iadd, 1, 0, 0, 0) :: (41, .imul, 1, 0, 0, 0) :: (42, .iload_n 3, 1, 0, 0, 0) :: (43, .iadd, 1, 0, 0, 0) :: (44, .istore 5, 2, 0, 0, 0) :: (46, .aload_n 0, 1, 0, 0, 0) :: (47, .getfield 62, 3, 10, 305, 1) :: (50, .iload 5, 2, 0, 0, 0) :: (52, .iaload, 1, 0, 0, 0) :: (53, .ifCond .ne 7, 3, 60, 0, 0) :: (56, .iconst 1, 1, 1, 0, 0) :: (57, .goto 4, 3, 61, 0, 0) :: k_X9_message_60
def k_X9_message_22 : List Ent := (22, .aload_n 0, 1, 0, 0, 0) :: (23, .iload_n 1, 1, 0, 0, 0) :: (24, .iload_n 2, 1, 0, 0, 0) :: (25, .iload_n 3, 1, 0, 0, 0) :: (26, .invokevirtual 170, 3, 100, 0, 0) :: (29, .ifCond .ne 5, 3, 34, 0, 0) :: (32, .iconst (-1), 1, 1, 1, 0) :: (33, .ireturn, 1, 0, 0, 0) :: k_X9_message_34
def k_X9_message_19 : List Ent := (19, .bipush (-2), 2, 2, 1, 0) :: (21, .ireturn, 1, 0, 0, 0) :: k_X9_message_22
def k_X9_message_0 : List Ent := (0, .iload_n 1, 1, 0, 0, 0) :: (1, .iload_n 2, 1, 0, 0, 0) :: (2, .invokestatic 145, 3, 99, 0, 2) :: (5, .ifCond .eq 14, 3, 19, 0, 0) :: (8, .iload 4, 2, 0, 0, 0) :: (10, .iconst 0, 1, 0, 0, 0) :: (11, .bipush 7, 2, 7, 0, 0) :: (13, .invokestatic 84, 3, 72, 0, 2) :: (16, .ifCond .ne 6, 3, 22, 0, 0) :: k_X9_message_19
def M_X9_message : MI := (yX9_message, cX9_message, 8, (some .int), 4, 86, 9, 5, 11, k_X9_message_0)
theorem sk_X9_message_19 : sm_seek (mP M_X9_message) 19 = k_X9_message_19 := rfl
theorem sk_X9_message_22 : sm_seek (mP M_X9_message) 22 = k_X9_message_22 := rfl
theorem sk_X9_message_34 : sm_seek (mP M_X9_message) 34 = k_X9_message_34 := rfl
theorem sk_X9_message_60 : sm_seek (mP M_X9_message) 60 = k_X9_message_60 := rfl
theorem sk_X9_message_61 : sm_seek (mP M_X9_message) 61 = k_X9_message_61 := rfl
theorem sk_X9_message_104 : sm_seek (mP M_X9_message) 104 = k_X9_message_104 := rfl
theorem sk_X9_message_112 : sm_seek (mP M_X9_message) 112 = k_X9_message_112 := rfl
theorem sk_X9_message_125 : sm_seek (mP M_X9_message) 125 = k_X9_message_125 := rfl
theorem sk_X9_message_127 : sm_seek (mP M_X9_message) 127 = k_X9_message_127 := rfl
theorem sk_X9_message_128 : sm_seek (mP M_X9_message) 128 = k_X9_message_128 := rfl
theorem sk_X9_message_141 : sm_seek (mP M_X9_message) 141 = k_X9_message_141 := rfl
theorem sk_X9_message_142 : sm_seek (mP M_X9_message) 142 = k_X9_message_142 := rfl
theorem sk_X9_message_143 : sm_seek (mP M_X9_message) 143 = k_X9_message_143 := rfl
theorem sk_X9_message_158 : sm_seek (mP M_X9_message) 158 = k_X9_message_158 := rfl
theorem sk_X9_message_159 : sm_seek (mP M_X9_message) 159 = k_X9_message_159 := rfl
theorem sk_X9_message_160 : sm_seek (mP M_X9_message) 160 = k_X9_message_160 := rfl
def k_X9_way_23 : List Ent := (23, .ireturn, 1, 0, 0, 0) :: []
def k_X9_way_21 : List Ent := (21, .bipush (-2), 2, 2, 1, 0) :: k_X9_way_23
def k_X9_way_0 : List Ent := (0, .iload_n 1, 1, 0, 0, 0) :: (1, .iload_n 2, 1, 0, 0, 0) :: (2, .invokestatic 145, 3, 99, 0, 2) :: (5, .ifCond .eq 16, 3, 21, 0, 0) :: (8, .aload_n 0, 1, 0, 0, 0) :: (9, .getfield 59, 3, 10, 304, 1) :: (12, .iconst 4, 1, 4, 0, 0) :: (13, .iload_n 1, 1, 0, 0, 0) :: (14, .imul, 1, 0, 0, 0) :: (15, .iload_n 2, 1, 0, 0, 0) :: (16, .iadd, 1, 0, 0, 0) :: (17, .iaload, 1, 0, 0, 0) :: (18, .goto 5, 3, 23, 0, 0) :: k_X9_way_21
def M_X9_way : MI := (yX9_way, cX9_way, 3, (some .int), 3, 63, 9, 3, 11, k_X9_way_0)
theorem sk_X9_way_21 : sm_seek (mP M_X9_way) 21 = k_X9_way_21 := rfl
theorem sk_X9_way_23 : sm_seek (mP M_X9_way) 23 = k_X9_way_23 := rfl
def k_J6_bitCount_0f7a4_0 : List Ent := (0, .iload_n 0, 1, 0, 0, 0) :: (1, .iload_n 0, 1, 0, 0, 0) :: (2, .iconst 1, 1, 1, 0, 0) :: (3, .iushr, 1, 0, 0, 0) :: (4, .ldc_w 265, 3, 1431655765, 0, 0) :: (7, .iand, 1, 0, 0, 0) :: (8, .isub, 1, 0, 0, 0) :: (9, .istore_n 0, 1, 0, 0, 0) :: (10, .iload_n 0, 1, 0, 0, 0) :: (11, .ldc_w 266, 3, 858993459, 0, 0) :: (14, .iand, 1, 0, 0, 0) :: (15, .iload_n 0, 1, 0, 0, 0) :: (16, .iconst 2, 1, 2, 0, 0) :: (17, .iushr, 1, 0, 0, 0) :: (18, .ldc_w 266, 3, 858993459, 0, 0) :: (21, .iand, 1, 0, 0, 0) :: (22, .iadd, 1, 0, 0, 0) :: (23, .istore_n 0, 1, 0, 0, 0) :: (24, .iload_n 0, 1, 0, 0, 0) :: (25, .iload_n 0, 1, 0, 0, 0) :: (26, .iconst 4, 1, 4, 0, 0) :: (27, .iushr, 1, 0, 0, 0) :: (28, .iadd, 1, 0, 0, 0) :: (29, .ldc_w 267, 3, 252645135, 0, 0) :: (32, .iand, 1, 0, 0, 0) :: (33, .istore_n 0, 1, 0, 0, 0) :: (34, .iload_n 0, 1, 0, 0, 0) :: (35, .iload_n 0, 1, 0, 0, 0) :: (36, .bipush 8, 2, 8, 0, 0) :: (38, .iushr, 1, 0, 0, 0) :: (39, .iadd, 1, 0, 0, 0) :: (40, .istore_n 0, 1, 0, 0, 0) :: (41, .iload_n 0, 1, 0, 0, 0) :: (42, .iload_n 0, 1, 0, 0, 0) :: (43, .bipush 16, 2, 16, 0, 0) :: (45, .iushr, 1, 0, 0, 0) :: (46, .iadd, 1, 0, 0, 0) :: (47, .istore_n 0, 1, 0, 0, 0) :: (48, .iload_n 0, 1, 0, 0, 0) :: (49, .bipush 63, 2, 63, 0, 0) :: (51, .iand, 1, 0, 0, 0) :: (52, .ireturn, 1, 0, 0, 0) :: []
def M_J6_bitCount_0f7a4 : MI := (yJ6_bitCount_0f7a4, cJ6_bitCount_0f7a4, 1, (some .int), 0, 0, 10, 1, 0, k_J6_bitCount_0f7a4_0)
def k_Jxa1e45_init_da8c8_0 : List Ent := (0, .aload_n 0, 1, 0, 0, 0) :: (1, .invokespecial 1, 3, 1000, 0, 1) :: (4, .return_, 1, 0, 0, 0) :: []
def M_Jxa1e45_init_da8c8 : MI := (yJxa1e45_init_da8c8, cJxa1e45_init_da8c8, 1, none, 1, 28, 11, 1, 1, k_Jxa1e45_init_da8c8_0)
def k_Jxc12de_init_da8c8_0 : List Ent := (0, .aload_n 0, 1, 0, 0, 0) :: (1, .invokespecial 1, 3, 126, 0, 1) :: (4, .aload_n 0, 1, 0, 0, 0) :: (5, .iconst 0, 1, 0, 0, 0) :: (6, .putfield 7, 3, 11, 320, 0) :: (9, .return_, 1, 0, 0, 0) :: []
def M_Jxc12de_init_da8c8 : MI := (yJxc12de_init_da8c8, cJxc12de_init_da8c8, 1, none, 2, 48, 12, 1, 1, k_Jxc12de_init_da8c8_0)
def k_AL_init_da8c8_0 : List Ent := (0, .aload_n 0, 1, 0, 0, 0) :: (1, .invokespecial 1, 3, 127, 0, 1) :: (4, .aload_n 0, 1, 0, 0, 0) :: (5, .getstatic 39, 3, 0, 0, 0) :: (8, .putfield 9, 3, 11, 321, 1) :: (11, .return_, 1, 0, 0, 0) :: []
def M_AL_init_da8c8 : MI := (yJx4a65c_init_da8c8, cJx4a65c_init_da8c8, 1, none, 3, 68, 13, 1, 1, k_AL_init_da8c8_0)
def k_AL_grow_92f84_45 : List Ent := (45, .aload_n 0, 1, 0, 0, 0) :: (46, .bipush 10, 2, 10, 0, 0) :: (48, .iload_n 1, 1, 0, 0, 0) :: (49, .invokestatic 79, 3, 1004, 0, 2) :: (52, .anewarray 7, 3, 22, 0, 0) :: (55, .dup_x1, 1, 0, 0, 0) :: (56, .putfield 9, 3, 11, 321, 1) :: (59, .areturn, 1, 0, 0, 0) :: []
def k_AL_grow_92f84_20 : List Ent := (20, .iload_n 2, 1, 0, 0, 0) :: (21, .iload_n 1, 1, 0, 0, 0) :: (22, .iload_n 2, 1, 0, 0, 0) :: (23, .isub, 1, 0, 0, 0) :: (24, .iload_n 2, 1, 0, 0, 0) :: (25, .iconst 1, 1, 1, 0, 0) :: (26, .ishr, 1, 0, 0, 0) :: (27, .invokestatic 73, 3, 142, 0, 2) :: (30, .istore_n 3, 1, 0, 0, 0) :: (31, .aload_n 0, 1, 0, 0, 0) :: (32, .aload_n 0, 1, 0, 0, 0) :: (33, .getfield 9, 3, 11, 321, 1) :: (36, .iload_n 3, 1, 0, 0, 0) :: (37, .invokestatic 66, 3, 139, 0, 2) :: (40, .dup_x1, 1, 0, 0, 0) :: (41, .putfield 9, 3, 11, 321, 1) :: (44, .areturn, 1, 0, 0, 0) :: k_AL_grow_92f84_45
def k_AL_grow_92f84_0 : List Ent := (0, .aload_n 0, 1, 0, 0, 0) :: (1, .getfield 9, 3, 11, 321, 1) :: (4, .arraylength, 1, 0, 0, 0) :: (5, .istore_n 2, 1, 0, 0, 0) :: (6, .iload_n 2, 1, 0, 0, 0) :: (7, .ifCond .gt 13, 3, 20, 0, 0) :: (10, .aload_n 0, 1, 0, 0, 0) :: (11, .getfield 9, 3, 11, 321, 1) :: (14, .getstatic 39, 3, 0, 0, 0) :: (17, .if_acmp .eq 28, 3, 45, 0, 0) :: k_AL_grow_92f84_20
def M_AL_grow_92f84 : MI := (yJx4a65c_grow_92f84, cJx4a65c_grow_92f84, 4, (some (.array (.object "java/lang/Object"))), 3, 73, 13, 2, 12, k_AL_grow_92f84_0)
theorem sk_AL_grow_92f84_20 : sm_seek (mP M_AL_grow_92f84) 20 = k_AL_grow_92f84_20 := rfl
theorem sk_AL_grow_92f84_45 : sm_seek (mP M_AL_grow_92f84) 45 = k_AL_grow_92f84_45 := rfl
def k_AL_grow_d5877_0 : List Ent := (0, .aload_n 0, 1, 0, 0, 0) :: (1, .aload_n 0, 1, 0, 0, 0) :: (2, .getfield 48, 3, 11, 322, 0) :: (5, .iconst 1, 1, 1, 0, 0) :: (6, .iadd, 1, 0, 0, 0) :: (7, .invokevirtual 69, 3, 129, 0, 0) :: (10, .areturn, 1, 0, 0, 0) :: []
def M_AL_grow_d5877 : MI := (yJx4a65c_grow_d5877, cJx4a65c_grow_d5877, 1, (some (.array (.object "java/lang/Object"))), 4, 96, 13, 1, 12, k_AL_grow_d5877_0)
def k_AL_size_8abf5_0 : List Ent := (0, .aload_n 0, 1, 0, 0, 0) :: (1, .getfield 48, 3, 11, 322, 0) :: (4, .ireturn, 1, 0, 0, 0) :: []
def M_AL_size_8abf5 : MI := (yJx4a65c_size_8abf5, cJx4a65c_size_8abf5, 1, (some .int), 0, 0, 13, 1, 12, k_AL_size_8abf5_0)
def k_AL_isEmpty_aae02_12 : List Ent := (12, .ireturn, 1, 0, 0, 0) :: []
def k_AL_isEmpty_aae02_11 : List Ent := (11, .iconst 0, 1, 0, 0, 0) :: k_AL_isEmpty_aae02_12
def k_AL_isEmpty_aae02_0 : List Ent := (0, .aload_n 0, 1, 0, 0, 0) :: (1, .getfield 48, 3, 11, 322, 0) :: (4, .ifCond .ne 7, 3, 11, 0, 0) :: (7, .iconst 1, 1, 1, 0, 0) :: (8, .goto 4, 3, 12, 0, 0) :: k_AL_isEmpty_aae02_11
def M_AL_isEmpty_aae02 : MI := (yJx4a65c_isEmpty_aae02, cJx4a65c_isEmpty_aae02, 1, (some .boolean), 0, 0, 13, 1, 12, k_AL_isEmpty_aae02_0)
theorem sk_AL_isEmpty_aae02_11 : sm_seek (mP M_AL_isEmpty_aae02) 11 = k_AL_isEmpty_aae02_11 := rfl
theorem sk_AL_isEmpty_aae02_12 : sm_seek (mP M_AL_isEmpty_aae02) 12 = k_AL_isEmpty_aae02_12 := rfl
def k_AL_elementData_915e3_0 : List Ent := (0, .aload_n 0, 1, 0, 0, 0) :: (1, .getfield 9, 3, 11, 321, 1) :: (4, .iload_n 1, 1, 0, 0, 0) :: (5, .aaload, 1, 0, 0, 0) :: (6, .areturn, 1, 0, 0, 0) :: []
def M_AL_elementData_915e3 : MI := (yJx4a65c_elementData_915e3, cJx4a65c_elementData_915e3, 2, (some (.object "java/lang/Object")), 0, 0, 13, 2, 12, k_AL_elementData_915e3_0)
def k_AL_get_915e3_0 : List Ent := (0, .iload_n 1, 1, 0, 0, 0) :: (1, .aload_n 0, 1, 0, 0, 0) :: (2, .getfield 48, 3, 11, 322, 0) :: (5, .invokestatic 118, 3, 141, 0, 2) :: (8, .pop, 1, 0, 0, 0) :: (9, .aload_n 0, 1, 0, 0, 0) :: (10, .iload_n 1, 1, 0, 0, 0) :: (11, .invokevirtual 123, 3, 133, 0, 0) :: (14, .areturn, 1, 0, 0, 0) :: []
def M_AL_get_915e3 : MI := (yJx4a65c_get_915e3, cJx4a65c_get_915e3, 2, (some (.object "java/lang/Object")), 3, 71, 13, 2, 12, k_AL_get_915e3_0)
def k_AL_add_72be8_11 : List Ent := (11, .aload_n 2, 1, 0, 0, 0) :: (12, .iload_n 3, 1, 0, 0, 0) :: (13, .aload_n 1, 1, 0, 0, 0) :: (14, .aastore, 1, 0, 0, 0) :: (15, .aload_n 0, 1, 0, 0, 0) :: (16, .iload_n 3, 1, 0, 0, 0) :: (17, .iconst 1, 1, 1, 0, 0) :: (18, .iadd, 1, 0, 0, 0) :: (19, .putfield 48, 3, 11, 322, 0) :: (22, .return_, 1, 0, 0, 0) :: []
def k_AL_add_72be8_0 : List Ent := (0, .iload_n 3, 1, 0, 0, 0) :: (1, .aload_n 2, 1, 0, 0, 0) :: (2, .arraylength, 1, 0, 0, 0) :: (3, .if_icmp .ne 8, 3, 11, 0, 0) :: (6, .aload_n 0, 1, 0, 0, 0) :: (7, .invokevirtual 129, 3, 130, 0, 0) :: (10, .astore_n 2, 1, 0, 0, 0) :: k_AL_add_72be8_11
def M_AL_add_72be8 : MI := (yJx4a65c_add_72be8, cJx4a65c_add_72be8, 4, none, 5, 116, 13, 4, 12, k_AL_add_72be8_0)
theorem sk_AL_add_72be8_11 : sm_seek (mP M_AL_add_72be8) 11 = k_AL_add_72be8_11 := rfl
def k_AL_add_9ea2d_0 : List Ent := (0, .aload_n 0, 1, 0, 0, 0) :: (1, .dup, 1, 0, 0, 0) :: (2, .getfield 63, 3, 11, 320, 0) :: (5, .iconst 1, 1, 1, 0, 0) :: (6, .iadd, 1, 0, 0, 0) :: (7, .putfield 63, 3, 11, 320, 0) :: (10, .aload_n 0, 1, 0, 0, 0) :: (11, .aload_n 1, 1, 0, 0, 0) :: (12, .aload_n 0, 1, 0, 0, 0) :: (13, .getfield 9, 3, 11, 321, 1) :: (16, .aload_n 0, 1, 0, 0, 0) :: (17, .getfield 48, 3, 11, 322, 0) :: (20, .invokevirtual 131, 3, 135, 0, 0) :: (23, .iconst 1, 1, 1, 0, 0) :: (24, .ireturn, 1, 0, 0, 0) :: []
def M_AL_add_9ea2d : MI := (yJx4a65c_add_9ea2d, cJx4a65c_add_9ea2d, 2, (some .boolean), 6, 139, 13, 2, 12, k_AL_add_9ea2d_0)
def k_AL_remove_915e3_0 : List Ent := (0, .iload_n 1, 1, 0, 0, 0) :: (1, .aload_n 0, 1, 0, 0, 0) :: (2, .getfield 48, 3, 11, 322, 0) :: (5, .invokestatic 118, 3, 141, 0, 2) :: (8, .pop, 1, 0, 0, 0) :: (9, .aload_n 0, 1, 0, 0, 0) :: (10, .getfield 9, 3, 11, 321, 1) :: (13, .astore_n 2, 1, 0, 0, 0) :: (14, .aload_n 2, 1, 0, 0, 0) :: (15, .iload_n 1, 1, 0, 0, 0) :: (16, .aaload, 1, 0, 0, 0) :: (17, .astore_n 3, 1, 0, 0, 0) :: (18, .aload_n 0, 1, 0, 0, 0) :: (19, .aload_n 2, 1, 0, 0, 0) :: (20, .iload_n 1, 1, 0, 0, 0) :: (21, .invokevirtual 144, 3, 138, 0, 0) :: (24, .aload_n 3, 1, 0, 0, 0) :: (25, .areturn, 1, 0, 0, 0) :: []
def M_AL_remove_915e3 : MI := (yJx4a65c_remove_915e3, cJx4a65c_remove_915e3, 4, (some (.object "java/lang/Object")), 3, 71, 13, 2, 12, k_AL_remove_915e3_0)
def k_AL_fastRemove_b59b0_34 : List Ent := (34, .aload_n 1, 1, 0, 0, 0) :: (35, .aload_n 0, 1, 0, 0, 0) :: (36, .iload_n 3, 1, 0, 0, 0) :: (37, .dup_x1, 1, 0, 0, 0) :: (38, .putfield 48, 3, 11, 322, 0) :: (41, .aconst_null, 1, 0, 0, 0) :: (42, .aastore, 1, 0, 0, 0) :: (43, .return_, 1, 0, 0, 0) :: []
def k_AL_fastRemove_b59b0_0 : List Ent := (0, .aload_n 0, 1, 0, 0, 0) :: (1, .dup, 1, 0, 0, 0) :: (2, .getfield 63, 3, 11, 320, 0) :: (5, .iconst 1, 1, 1, 0, 0) :: (6, .iadd, 1, 0, 0, 0) :: (7, .putfield 63, 3, 11, 320, 0) :: (10, .aload_n 0, 1, 0, 0, 0) :: (11, .getfield 48, 3, 11, 322, 0) :: (14, .iconst 1, 1, 1, 0, 0) :: (15, .isub, 1, 0, 0, 0) :: (16, .dup, 1, 0, 0, 0) :: (17, .istore_n 3, 1, 0, 0, 0) :: (18, .iload_n 2, 1, 0, 0, 0) :: (19, .if_icmp .le 15, 3, 34, 0, 0) :: (22, .aload_n 1, 1, 0, 0, 0) :: (23, .iload_n 2, 1, 0, 0, 0) :: (24, .iconst 1, 1, 1, 0, 0) :: (25, .iadd, 1, 0, 0, 0) :: (26, .aload_n 1, 1, 0, 0, 0) :: (27, .iload_n 2, 1, 0, 0, 0) :: (28, .iload_n 3, 1, 0, 0, 0) :: (29, .iload_n 2, 1, 0, 0, 0) :: (30, .isub, 1, 0, 0, 0) :: (31, .invokestatic 112, 3, 1002, 0, 2) :: k_AL_fastRemove_b59b0_34
def M_AL_fastRemove_b59b0 : MI := (yJx4a65c_fastRemove_b59b0, cJx4a65c_fastRemove_b59b0, 4, none, 1, 28, 13, 3, 12, k_AL_fastRemove_b59b0_0)
theorem sk_AL_fastRemove_b59b0_34 : sm_seek (mP M_AL_fastRemove_b59b0) 34 = k_AL_fastRemove_b59b0_34 := rfl
def k_J7_copyOf_1904c_0 : List Ent := (0, .aload_n 0, 1, 0, 0, 0) :: (1, .iload_n 1, 1, 0, 0, 0) :: (2, .aload_n 0, 1, 0, 0, 0) :: (3, .invokevirtual 86, 3, 1003, 0, 0) :: (6, .invokestatic 300, 3, 140, 0, 2) :: (9, .areturn, 1, 0, 0, 0) :: []
def M_J7_copyOf_1904c : MI := (yJ7_copyOf_1904c, cJ7_copyOf_1904c, 2, (some (.array (.object "java/lang/Object"))), 2, 51, 14, 2, 0, k_J7_copyOf_1904c_0)
def k_J7_copyOf_6403c_24 : List Ent := (24, .astore_n 3, 1, 0, 0, 0) :: (25, .aload_n 0, 1, 0, 0, 0) :: (26, .iconst 0, 1, 0, 0, 0) :: (27, .aload_n 3, 1, 0, 0, 0) :: (28, .iconst 0, 1, 0, 0, 0) :: (29, .aload_n 0, 1, 0, 0, 0) :: (30, .arraylength, 1, 0, 0, 0) :: (31, .iload_n 1, 1, 0, 0, 0) :: (32, .invokestatic 304, 3, 1005, 0, 2) :: (35, .invokestatic 150, 3, 1002, 0, 2) :: (38, .aload_n 3, 1, 0, 0, 0) :: (39, .areturn, 1, 0, 0, 0) :: []
def k_J7_copyOf_6403c_13 : List Ent := (13, .aload_n 2, 1, 0, 0, 0) :: (14, .invokevirtual 90, 3, 9999, 0, 9) :: (17, .iload_n 1, 1, 0, 0, 0) :: (18, .invokestatic 95, 3, 9999, 0, 9) :: (21, .checkcast 110, 3, 0, 0, 9) :: k_J7_copyOf_6403c_24
def k_J7_copyOf_6403c_0 : List Ent := (0, .aload_n 2, 1, 0, 0, 0) :: (1, .ldc 110, 2, 0, 0, 1) :: (3, .if_acmp .ne 10, 3, 13, 0, 0) :: (6, .iload_n 1, 1, 0, 0, 0) :: (7, .anewarray 2, 3, 22, 0, 0) :: (10, .goto 14, 3, 24, 0, 0) :: k_J7_copyOf_6403c_13
def M_J7_copyOf_6403c : MI := (yJ7_copyOf_6403c, cJ7_copyOf_6403c, 4, (some (.array (.object "java/lang/Object"))), 1, 28, 14, 3, 0, k_J7_copyOf_6403c_0)
theorem sk_J7_copyOf_6403c_13 : sm_seek (mP M_J7_copyOf_6403c) 13 = k_J7_copyOf_6403c_13 := rfl
theorem sk_J7_copyOf_6403c_24 : sm_seek (mP M_J7_copyOf_6403c) 24 = k_J7_copyOf_6403c_24 := rfl
def k_J15_checkIndex_7cf53_0 : List Ent := (0, .iload_n 0, 1, 0, 0, 0) :: (1, .iload_n 1, 1, 0, 0, 0) :: (2, .aconst_null, 1, 0, 0, 0) :: (3, .invokestatic 105, 3, 144, 0, 2) :: (6, .ireturn, 1, 0, 0, 0) :: []
def M_J15_checkIndex_7cf53 : MI := (yJ15_checkIndex_7cf53, cJ15_checkIndex_7cf53, 2, (some .int), 2, 50, 15, 2, 0, k_J15_checkIndex_7cf53_0)
def k_J8_newLength_cabcc_21 : List Ent := (21, .iload_n 0, 1, 0, 0, 0) :: (22, .iload_n 1, 1, 0, 0, 0) :: (23, .invokestatic 201, 3, 143, 0, 2) :: (26, .ireturn, 1, 0, 0, 0) :: []
def k_J8_newLength_cabcc_0 : List Ent := (0, .iload_n 0, 1, 0, 0, 0) :: (1, .iload_n 1, 1, 0, 0, 0) :: (2, .iload_n 2, 1, 0, 0, 0) :: (3, .invokestatic 194, 3, 1004, 0, 2) :: (6, .iadd, 1, 0, 0, 0) :: (7, .istore_n 3, 1, 0, 0, 0) :: (8, .iconst 0, 1, 0, 0, 0) :: (9, .iload_n 3, 1, 0, 0, 0) :: (10, .if_icmp .ge 11, 3, 21, 0, 0) :: (13, .iload_n 3, 1, 0, 0, 0) :: (14, .ldc 200, 2, 2147483639, 0, 0) :: (16, .if_icmp .gt 5, 3, 21, 0, 0) :: (19, .iload_n 3, 1, 0, 0, 0) :: (20, .ireturn, 1, 0, 0, 0) :: k_J8_newLength_cabcc_21
def M_J8_newLength_cabcc : MI := (yJ8_newLength_cabcc, cJ8_newLength_cabcc, 4, (some .int), 2, 50, 16, 3, 0, k_J8_newLength_cabcc_0)
theorem sk_J8_newLength_cabcc_21 : sm_seek (mP M_J8_newLength_cabcc) 21 = k_J8_newLength_cabcc_21 := rfl
def k_J8_hugeLength_7cf53_58 : List Ent := (58, .iload_n 2, 1, 0, 0, 0) :: (59, .ireturn, 1, 0, 0, 0) :: []
def k_J8_hugeLength_7cf53_49 : List Ent := (49, .iload_n 2, 1, 0, 0, 0) :: (50, .ldc 200, 2, 2147483639, 0, 0) :: (52, .if_icmp .gt 6, 3, 58, 0, 0) :: (55, .ldc 200, 2, 2147483639, 0, 0) :: (57, .ireturn, 1, 0, 0, 0) :: k_J8_hugeLength_7cf53_58
def k_J8_hugeLength_7cf53_0 : List Ent := (0, .iload_n 0, 1, 0, 0, 0) :: (1, .iload_n 1, 1, 0, 0, 0) :: (2, .iadd, 1, 0, 0, 0) :: (3, .istore_n 2, 1, 0, 0, 0) :: (4, .iload_n 2, 1, 0, 0, 0) :: (5, .ifCond .ge 44, 3, 49, 0, 0) :: (8, .new 204, 3, 0, 0, 9) :: (11, .dup, 1, 0, 0, 0) :: (12, .new 89, 3, 0, 0, 9) :: (15, .dup, 1, 0, 0, 0) :: (16, .invokespecial 91, 3, 9999, 0, 9) :: (19, .ldc 206, 2, 0, 0, 9) :: (21, .invokevirtual 94, 3, 9999, 0, 9) :: (24, .iload_n 0, 1, 0, 0, 0) :: (25, .invokevirtual 98, 3, 9999, 0, 9) :: (28, .ldc 208, 2, 0, 0, 9) :: (30, .invokevirtual 94, 3, 9999, 0, 9) :: (33, .iload_n 1, 1, 0, 0, 0) :: (34, .invokevirtual 98, 3, 9999, 0, 9) :: (37, .ldc 210, 2, 0, 0, 9) :: (39, .invokevirtual 94, 3, 9999, 0, 9) :: (42, .invokevirtual 101, 3, 9999, 0, 9) :: (45, .invokespecial 212, 3, 9999, 0, 9) :: (48, .athrow, 1, 0, 0, 9) :: k_J8_hugeLength_7cf53_49
def M_J8_hugeLength_7cf53 : MI := (yJ8_hugeLength_7cf53, cJ8_hugeLength_7cf53, 3, (some .int), 1, 28, 16, 2, 0, k_J8_hugeLength_7cf53_0)
theorem sk_J8_hugeLength_7cf53_49 : sm_seek (mP M_J8_hugeLength_7cf53) 49 = k_J8_hugeLength_7cf53_49 := rfl
theorem sk_J8_hugeLength_7cf53_58 : sm_seek (mP M_J8_hugeLength_7cf53) 58 = k_J8_hugeLength_7cf53_58 := rfl
def k_J3_checkIndex_8e157_16 : List Ent := (16, .iload_n 0, 1, 0, 0, 0) :: (17, .ireturn, 1, 0, 0, 0) :: []
def k_J3_checkIndex_8e157_9 : List Ent := (9, .aload_n 2, 1, 0, 0, 0) :: (10, .iload_n 0, 1, 0, 0, 0) :: (11, .iload_n 1, 1, 0, 0, 0) :: (12, .invokestatic 95, 3, 9999, 0, 9) :: (15, .athrow, 1, 0, 0, 9) :: k_J3_checkIndex_8e157_16
def k_J3_checkIndex_8e157_0 : List Ent := (0, .iload_n 0, 1, 0, 0, 0) :: (1, .ifCond .lt 8, 3, 9, 0, 0) :: (4, .iload_n 0, 1, 0, 0, 0) :: (5, .iload_n 1, 1, 0, 0, 0) :: (6, .if_icmp .lt 10, 3, 16, 0, 0) :: k_J3_checkIndex_8e157_9
def M_J3_checkIndex_8e157 : MI := (yJ3_checkIndex_8e157, cJ3_checkIndex_8e157, 3, (some .int), 1, 28, 17, 3, 0, k_J3_checkIndex_8e157_0)
theorem sk_J3_checkIndex_8e157_9 : sm_seek (mP M_J3_checkIndex_8e157) 9 = k_J3_checkIndex_8e157_9 := rfl
theorem sk_J3_checkIndex_8e157_16 : sm_seek (mP M_J3_checkIndex_8e157) 16 = k_J3_checkIndex_8e157_16 := rfl
def k_L_law_1071 : List Ent := (1071, .iconst 1, 1, 1, 0, 0) :: (1072, .ireturn, 1, 0, 0, 0) :: []
def k_L_law_1065 : List Ent := (1065, .iinc 3 5, 3, 5, 0, 0) :: (1068, .goto (-1050), 3, 18, 0, 0) :: k_L_law_1071
def k_L_law_1032 : List Ent := (1032, .aload_n 1, 1, 0, 0, 0) :: (1033, .aload_n 0, 1, 0, 0, 0) :: (1034, .iload_n 3, 1, 0, 0, 0) :: (1035, .iconst 1, 1, 1, 0, 0) :: (1036, .iadd, 1, 0, 0, 0) :: (1037, .iaload, 1, 0, 0, 0) :: (1038, .aload_n 0, 1, 0, 0, 0) :: (1039, .iload_n 3, 1, 0, 0, 0) :: (1040, .iconst 2, 1, 2, 0, 0) :: (1041, .iadd, 1, 0, 0, 0) :: (1042, .iaload, 1, 0, 0, 0) :: (1043, .invokevirtual 105, 3, 59, 0, 0) :: (1046, .aload_n 2, 1, 0, 0, 0) :: (1047, .aload_n 0, 1, 0, 0, 0) :: (1048, .iload_n 3, 1, 0, 0, 0) :: (1049, .iconst 1, 1, 1, 0, 0) :: (1050, .iadd, 1, 0, 0, 0) :: (1051, .iaload, 1, 0, 0, 0) :: (1052, .aload_n 0, 1, 0, 0, 0) :: (1053, .iload_n 3, 1, 0, 0, 0) :: (1054, .iconst 2, 1, 2, 0, 0) :: (1055, .iadd, 1, 0, 0, 0) :: (1056, .iaload, 1, 0, 0, 0) :: (1057, .invokevirtual 108, 3, 124, 0, 0) :: (1060, .if_icmp .eq 5, 3, 1065, 0, 0) :: (1063, .iconst 0, 1, 0, 0, 0) :: (1064, .ireturn, 1, 0, 0, 0) :: k_L_law_1065
def k_L_law_979 : List Ent := (979, .aload_n 1, 1, 0, 0, 0) :: (980, .aload_n 0, 1, 0, 0, 0) :: (981, .iload_n 3, 1, 0, 0, 0) :: (982, .iconst 1, 1, 1, 0, 0) :: (983, .iadd, 1, 0, 0, 0) :: (984, .iaload, 1, 0, 0, 0) :: (985, .aload_n 0, 1, 0, 0, 0) :: (986, .iload_n 3, 1, 0, 0, 0) :: (987, .iconst 2, 1, 2, 0, 0) :: (988, .iadd, 1, 0, 0, 0) :: (989, .iaload, 1, 0, 0, 0) :: (990, .aload_n 0, 1, 0, 0, 0) :: (991, .iload_n 3, 1, 0, 0, 0) :: (992, .iconst 3, 1, 3, 0, 0) :: (993, .iadd, 1, 0, 0, 0) :: (994, .iaload, 1, 0, 0, 0) :: (995, .aload_n 0, 1, 0, 0, 0) :: (996, .iload_n 3, 1, 0, 0, 0) :: (997, .iconst 4, 1, 4, 0, 0) :: (998, .iadd, 1, 0, 0, 0) :: (999, .iaload, 1, 0, 0, 0) :: (1000, .invokevirtual 101, 3, 58, 0, 0) :: (1003, .aload_n 2, 1, 0, 0, 0) :: (1004, .aload_n 0, 1, 0, 0, 0) :: (1005, .iload_n 3, 1, 0, 0, 0) :: (1006, .iconst 1, 1, 1, 0, 0) :: (1007, .iadd, 1, 0, 0, 0) :: (1008, .iaload, 1, 0, 0, 0) :: (1009, .aload_n 0, 1, 0, 0, 0) :: (1010, .iload_n 3, 1, 0, 0, 0) :: (1011, .iconst 2, 1, 2, 0, 0) :: (1012, .iadd, 1, 0, 0, 0) :: (1013, .iaload, 1, 0, 0, 0) :: (1014, .aload_n 0, 1, 0, 0, 0) :: (1015, .iload_n 3, 1, 0, 0, 0) :: (1016, .iconst 3, 1, 3, 0, 0) :: (1017, .iadd, 1, 0, 0, 0) :: (1018, .iaload, 1, 0, 0, 0) :: (1019, .aload_n 0, 1, 0, 0, 0) :: (1020, .iload_n 3, 1, 0, 0, 0) :: (1021, .iconst 4, 1, 4, 0, 0) :: (1022, .iadd, 1, 0, 0, 0) :: (1023, .iaload, 1, 0, 0, 0) :: (1024, .invokevirtual 104, 3, 123, 0, 0) :: (1027, .if_icmp .eq 38, 3, 1065, 0, 0) :: (1030, .iconst 0, 1, 0, 0, 0) :: (1031, .ireturn, 1, 0, 0, 0) :: k_L_law_1032
def k_L_law_946 : List Ent := (946, .aload_n 1, 1, 0, 0, 0) :: (947, .aload_n 0, 1, 0, 0, 0) :: (948, .iload_n 3, 1, 0, 0, 0) :: (949, .iconst 1, 1, 1, 0, 0) :: (950, .iadd, 1, 0, 0, 0) :: (951, .iaload, 1, 0, 0, 0) :: (952, .aload_n 0, 1, 0, 0, 0) :: (953, .iload_n 3, 1, 0, 0, 0) :: (954, .iconst 2, 1, 2, 0, 0) :: (955, .iadd, 1, 0, 0, 0) :: (956, .iaload, 1, 0, 0, 0) :: (957, .invokevirtual 97, 3, 57, 0, 0) :: (960, .aload_n 2, 1, 0, 0, 0) :: (961, .aload_n 0, 1, 0, 0, 0) :: (962, .iload_n 3, 1, 0, 0, 0) :: (963, .iconst 1, 1, 1, 0, 0) :: (964, .iadd, 1, 0, 0, 0) :: (965, .iaload, 1, 0, 0, 0) :: (966, .aload_n 0, 1, 0, 0, 0) :: (967, .iload_n 3, 1, 0, 0, 0) :: (968, .iconst 2, 1, 2, 0, 0) :: (969, .iadd, 1, 0, 0, 0) :: (970, .iaload, 1, 0, 0, 0) :: (971, .invokevirtual 100, 3, 122, 0, 0) :: (974, .if_icmp .eq 91, 3, 1065, 0, 0) :: (977, .iconst 0, 1, 0, 0, 0) :: (978, .ireturn, 1, 0, 0, 0) :: k_L_law_979
def k_L_law_903 : List Ent := (903, .aload_n 1, 1, 0, 0, 0) :: (904, .aload_n 0, 1, 0, 0, 0) :: (905, .iload_n 3, 1, 0, 0, 0) :: (906, .iconst 1, 1, 1, 0, 0) :: (907, .iadd, 1, 0, 0, 0) :: (908, .iaload, 1, 0, 0, 0) :: (909, .aload_n 0, 1, 0, 0, 0) :: (910, .iload_n 3, 1, 0, 0, 0) :: (911, .iconst 2, 1, 2, 0, 0) :: (912, .iadd, 1, 0, 0, 0) :: (913, .iaload, 1, 0, 0, 0) :: (914, .aload_n 0, 1, 0, 0, 0) :: (915, .iload_n 3, 1, 0, 0, 0) :: (916, .iconst 3, 1, 3, 0, 0) :: (917, .iadd, 1, 0, 0, 0) :: (918, .iaload, 1, 0, 0, 0) :: (919, .invokevirtual 93, 3, 56, 0, 0) :: (922, .aload_n 2, 1, 0, 0, 0) :: (923, .aload_n 0, 1, 0, 0, 0) :: (924, .iload_n 3, 1, 0, 0, 0) :: (925, .iconst 1, 1, 1, 0, 0) :: (926, .iadd, 1, 0, 0, 0) :: (927, .iaload, 1, 0, 0, 0) :: (928, .aload_n 0, 1, 0, 0, 0) :: (929, .iload_n 3, 1, 0, 0, 0) :: (930, .iconst 2, 1, 2, 0, 0) :: (931, .iadd, 1, 0, 0, 0) :: (932, .iaload, 1, 0, 0, 0) :: (933, .aload_n 0, 1, 0, 0, 0) :: (934, .iload_n 3, 1, 0, 0, 0) :: (935, .iconst 3, 1, 3, 0, 0) :: (936, .iadd, 1, 0, 0, 0) :: (937, .iaload, 1, 0, 0, 0) :: (938, .invokevirtual 96, 3, 120, 0, 0) :: (941, .if_icmp .eq 124, 3, 1065, 0, 0) :: (944, .iconst 0, 1, 0, 0, 0) :: (945, .ireturn, 1, 0, 0, 0) :: k_L_law_946
def k_L_law_870 : List Ent := (870, .aload_n 1, 1, 0, 0, 0) :: (871, .aload_n 0, 1, 0, 0, 0) :: (872, .iload_n 3, 1, 0, 0, 0) :: (873, .iconst 1, 1, 1, 0, 0) :: (874, .iadd, 1, 0, 0, 0) :: (875, .iaload, 1, 0, 0, 0) :: (876, .aload_n 0, 1, 0, 0, 0) :: (877, .iload_n 3, 1, 0, 0, 0) :: (878, .iconst 2, 1, 2, 0, 0) :: (879, .iadd, 1, 0, 0, 0) :: (880, .iaload, 1, 0, 0, 0) :: (881, .invokevirtual 89, 3, 55, 0, 0) :: (884, .aload_n 2, 1, 0, 0, 0) :: (885, .aload_n 0, 1, 0, 0, 0) :: (886, .iload_n 3, 1, 0, 0, 0) :: (887, .iconst 1, 1, 1, 0, 0) :: (888, .iadd, 1, 0, 0, 0) :: (889, .iaload, 1, 0, 0, 0) :: (890, .aload_n 0, 1, 0, 0, 0) :: (891, .iload_n 3, 1, 0, 0, 0) :: (892, .iconst 2, 1, 2, 0, 0) :: (893, .iadd, 1, 0, 0, 0) :: (894, .iaload, 1, 0, 0, 0) :: (895, .invokevirtual 92, 3, 119, 0, 0) :: (898, .if_icmp .eq 167, 3, 1065, 0, 0) :: (901, .iconst 0, 1, 0, 0, 0) :: (902, .ireturn, 1, 0, 0, 0) :: k_L_law_903
def k_L_law_827 : List Ent := (827, .aload_n 1, 1, 0, 0, 0) :: (828, .aload_n 0, 1, 0, 0, 0) :: (829, .iload_n 3, 1, 0, 0, 0) :: (830, .iconst 1, 1, 1, 0, 0) :: (831, .iadd, 1, 0, 0, 0) :: (832, .iaload, 1, 0, 0, 0) :: (833, .aload_n 0, 1, 0, 0, 0) :: (834, .iload_n 3, 1, 0, 0, 0) :: (835, .iconst 2, 1, 2, 0, 0) :: (836, .iadd, 1, 0, 0, 0) :: (837, .iaload, 1, 0, 0, 0) :: (838, .aload_n 0, 1, 0, 0, 0) :: (839, .iload_n 3, 1, 0, 0, 0) :: (840, .iconst 3, 1, 3, 0, 0) :: (841, .iadd, 1, 0, 0, 0) :: (842, .iaload, 1, 0, 0, 0) :: (843, .invokevirtual 85, 3, 54, 0, 0) :: (846, .aload_n 2, 1, 0, 0, 0) :: (847, .aload_n 0, 1, 0, 0, 0) :: (848, .iload_n 3, 1, 0, 0, 0) :: (849, .iconst 1, 1, 1, 0, 0) :: (850, .iadd, 1, 0, 0, 0) :: (851, .iaload, 1, 0, 0, 0) :: (852, .aload_n 0, 1, 0, 0, 0) :: (853, .iload_n 3, 1, 0, 0, 0) :: (854, .iconst 2, 1, 2, 0, 0) :: (855, .iadd, 1, 0, 0, 0) :: (856, .iaload, 1, 0, 0, 0) :: (857, .aload_n 0, 1, 0, 0, 0) :: (858, .iload_n 3, 1, 0, 0, 0) :: (859, .iconst 3, 1, 3, 0, 0) :: (860, .iadd, 1, 0, 0, 0) :: (861, .iaload, 1, 0, 0, 0) :: (862, .invokevirtual 88, 3, 98, 0, 0) :: (865, .if_icmp .eq 200, 3, 1065, 0, 0) :: (868, .iconst 0, 1, 0, 0, 0) :: (869, .ireturn, 1, 0, 0, 0) :: k_L_law_870
def k_L_law_794 : List Ent := (794, .aload_n 1, 1, 0, 0, 0) :: (795, .aload_n 0, 1, 0, 0, 0) :: (796, .iload_n 3, 1, 0, 0, 0) :: (797, .iconst 1, 1, 1, 0, 0) :: (798, .iadd, 1, 0, 0, 0) :: (799, .iaload, 1, 0, 0, 0) :: (800, .aload_n 0, 1, 0, 0, 0) :: (801, .iload_n 3, 1, 0, 0, 0) :: (802, .iconst 2, 1, 2, 0, 0) :: (803, .iadd, 1, 0, 0, 0) :: (804, .iaload, 1, 0, 0, 0) :: (805, .invokevirtual 81, 3, 53, 0, 0) :: (808, .aload_n 2, 1, 0, 0, 0) :: (809, .aload_n 0, 1, 0, 0, 0) :: (810, .iload_n 3, 1, 0, 0, 0) :: (811, .iconst 1, 1, 1, 0, 0) :: (812, .iadd, 1, 0, 0, 0) :: (813, .iaload, 1, 0, 0, 0) :: (814, .aload_n 0, 1, 0, 0, 0) :: (815, .iload_n 3, 1, 0, 0, 0) :: (816, .iconst 2, 1, 2, 0, 0) :: (817, .iadd, 1, 0, 0, 0) :: (818, .iaload, 1, 0, 0, 0) :: (819, .invokevirtual 84, 3, 97, 0, 0) :: (822, .if_icmp .eq 243, 3, 1065, 0, 0) :: (825, .iconst 0, 1, 0, 0, 0) :: (826, .ireturn, 1, 0, 0, 0) :: k_L_law_827
def k_L_law_761 : List Ent := (761, .aload_n 1, 1, 0, 0, 0) :: (762, .aload_n 0, 1, 0, 0, 0) :: (763, .iload_n 3, 1, 0, 0, 0) :: (764, .iconst 1, 1, 1, 0, 0) :: (765, .iadd, 1, 0, 0, 0) :: (766, .iaload, 1, 0, 0, 0) :: (767, .aload_n 0, 1, 0, 0, 0) :: (768, .iload_n 3, 1, 0, 0, 0) :: (769, .iconst 2, 1, 2, 0, 0) :: (770, .iadd, 1, 0, 0, 0) :: (771, .iaload, 1, 0, 0, 0) :: (772, .invokevirtual 77, 3, 52, 0, 0) :: (775, .aload_n 2, 1, 0, 0, 0) :: (776, .aload_n 0, 1, 0, 0, 0) :: (777, .iload_n 3, 1, 0, 0, 0) :: (778, .iconst 1, 1, 1, 0, 0) :: (779, .iadd, 1, 0, 0, 0) :: (780, .iaload, 1, 0, 0, 0) :: (781, .aload_n 0, 1, 0, 0, 0) :: (782, .iload_n 3, 1, 0, 0, 0) :: (783, .iconst 2, 1, 2, 0, 0) :: (784, .iadd, 1, 0, 0, 0) :: (785, .iaload, 1, 0, 0, 0) :: (786, .invokevirtual 80, 3, 93, 0, 0) :: (789, .if_icmp .eq 276, 3, 1065, 0, 0) :: (792, .iconst 0, 1, 0, 0, 0) :: (793, .ireturn, 1, 0, 0, 0) :: k_L_law_794
def k_L_law_728 : List Ent := (728, .aload_n 1, 1, 0, 0, 0) :: (729, .aload_n 0, 1, 0, 0, 0) :: (730, .iload_n 3, 1, 0, 0, 0) :: (731, .iconst 1, 1, 1, 0, 0) :: (732, .iadd, 1, 0, 0, 0) :: (733, .iaload, 1, 0, 0, 0) :: (734, .aload_n 0, 1, 0, 0, 0) :: (735, .iload_n 3, 1, 0, 0, 0) :: (736, .iconst 2, 1, 2, 0, 0) :: (737, .iadd, 1, 0, 0, 0) :: (738, .iaload, 1, 0, 0, 0) :: (739, .invokevirtual 73, 3, 51, 0, 0) :: (742, .aload_n 2, 1, 0, 0, 0) :: (743, .aload_n 0, 1, 0, 0, 0) :: (744, .iload_n 3, 1, 0, 0, 0) :: (745, .iconst 1, 1, 1, 0, 0) :: (746, .iadd, 1, 0, 0, 0) :: (747, .iaload, 1, 0, 0, 0) :: (748, .aload_n 0, 1, 0, 0, 0) :: (749, .iload_n 3, 1, 0, 0, 0) :: (750, .iconst 2, 1, 2, 0, 0) :: (751, .iadd, 1, 0, 0, 0) :: (752, .iaload, 1, 0, 0, 0) :: (753, .invokevirtual 76, 3, 92, 0, 0) :: (756, .if_icmp .eq 309, 3, 1065, 0, 0) :: (759, .iconst 0, 1, 0, 0, 0) :: (760, .ireturn, 1, 0, 0, 0) :: k_L_law_761
def k_L_law_685 : List Ent := (685, .aload_n 1, 1, 0, 0, 0) :: (686, .aload_n 0, 1, 0, 0, 0) :: (687, .iload_n 3, 1, 0, 0, 0) :: (688, .iconst 1, 1, 1, 0, 0) :: (689, .iadd, 1, 0, 0, 0) :: (690, .iaload, 1, 0, 0, 0) :: (691, .aload_n 0, 1, 0, 0, 0) :: (692, .iload_n 3, 1, 0, 0, 0) :: (693, .iconst 2, 1, 2, 0, 0) :: (694, .iadd, 1, 0, 0, 0) :: (695, .iaload, 1, 0, 0, 0) :: (696, .aload_n 0, 1, 0, 0, 0) :: (697, .iload_n 3, 1, 0, 0, 0) :: (698, .iconst 3, 1, 3, 0, 0) :: (699, .iadd, 1, 0, 0, 0) :: (700, .iaload, 1, 0, 0, 0) :: (701, .invokevirtual 69, 3, 50, 0, 0) :: (704, .aload_n 2, 1, 0, 0, 0) :: (705, .aload_n 0, 1, 0, 0, 0) :: (706, .iload_n 3, 1, 0, 0, 0) :: (707, .iconst 1, 1, 1, 0, 0) :: (708, .iadd, 1, 0, 0, 0) :: (709, .iaload, 1, 0, 0, 0) :: (710, .aload_n 0, 1, 0, 0, 0) :: (711, .iload_n 3, 1, 0, 0, 0) :: (712, .iconst 2, 1, 2, 0, 0) :: (713, .iadd, 1, 0, 0, 0) :: (714, .iaload, 1, 0, 0, 0) :: (715, .aload_n 0, 1, 0, 0, 0) :: (716, .iload_n 3, 1, 0, 0, 0) :: (717, .iconst 3, 1, 3, 0, 0) :: (718, .iadd, 1, 0, 0, 0) :: (719, .iaload, 1, 0, 0, 0) :: (720, .invokevirtual 72, 3, 91, 0, 0) :: (723, .if_icmp .eq 342, 3, 1065, 0, 0) :: (726, .iconst 0, 1, 0, 0, 0) :: (727, .ireturn, 1, 0, 0, 0) :: k_L_law_728
def k_L_law_652 : List Ent := (652, .aload_n 1, 1, 0, 0, 0) :: (653, .aload_n 0, 1, 0, 0, 0) :: (654, .iload_n 3, 1, 0, 0, 0) :: (655, .iconst 1, 1, 1, 0, 0) :: (656, .iadd, 1, 0, 0, 0) :: (657, .iaload, 1, 0, 0, 0) :: (658, .aload_n 0, 1, 0, 0, 0) :: (659, .iload_n 3, 1, 0, 0, 0) :: (660, .iconst 2, 1, 2, 0, 0) :: (661, .iadd, 1, 0, 0, 0) :: (662, .iaload, 1, 0, 0, 0) :: (663, .invokevirtual 65, 3, 49, 0, 0) :: (666, .aload_n 2, 1, 0, 0, 0) :: (667, .aload_n 0, 1, 0, 0, 0) :: (668, .iload_n 3, 1, 0, 0, 0) :: (669, .iconst 1, 1, 1, 0, 0) :: (670, .iadd, 1, 0, 0, 0) :: (671, .iaload, 1, 0, 0, 0) :: (672, .aload_n 0, 1, 0, 0, 0) :: (673, .iload_n 3, 1, 0, 0, 0) :: (674, .iconst 2, 1, 2, 0, 0) :: (675, .iadd, 1, 0, 0, 0) :: (676, .iaload, 1, 0, 0, 0) :: (677, .invokevirtual 68, 3, 89, 0, 0) :: (680, .if_icmp .eq 385, 3, 1065, 0, 0) :: (683, .iconst 0, 1, 0, 0, 0) :: (684, .ireturn, 1, 0, 0, 0) :: k_L_law_685
def k_L_law_644 : List Ent := (644, .invokevirtual 64, 3, 118, 0, 0) :: (647, .if_icmp .eq 418, 3, 1065, 0, 0) :: (650, .iconst 0, 1, 0, 0, 0) :: (651, .ireturn, 1, 0, 0, 0) :: k_L_law_652
def k_L_law_643 : List Ent := (643, .iconst 0, 1, 0, 0, 0) :: k_L_law_644
def k_L_law_622 : List Ent := (622, .invokevirtual 60, 3, 48, 0, 0) :: (625, .aload_n 2, 1, 0, 0, 0) :: (626, .aload_n 0, 1, 0, 0, 0) :: (627, .iload_n 3, 1, 0, 0, 0) :: (628, .iconst 1, 1, 1, 0, 0) :: (629, .iadd, 1, 0, 0, 0) :: (630, .iaload, 1, 0, 0, 0) :: (631, .aload_n 0, 1, 0, 0, 0) :: (632, .iload_n 3, 1, 0, 0, 0) :: (633, .iconst 2, 1, 2, 0, 0) :: (634, .iadd, 1, 0, 0, 0) :: (635, .iaload, 1, 0, 0, 0) :: (636, .ifCond .eq 7, 3, 643, 0, 0) :: (639, .iconst 1, 1, 1, 0, 0) :: (640, .goto 4, 3, 644, 0, 0) :: k_L_law_643
def k_L_law_621 : List Ent := (621, .iconst 0, 1, 0, 0, 0) :: k_L_law_622
def k_L_law_603 : List Ent := (603, .aload_n 1, 1, 0, 0, 0) :: (604, .aload_n 0, 1, 0, 0, 0) :: (605, .iload_n 3, 1, 0, 0, 0) :: (606, .iconst 1, 1, 1, 0, 0) :: (607, .iadd, 1, 0, 0, 0) :: (608, .iaload, 1, 0, 0, 0) :: (609, .aload_n 0, 1, 0, 0, 0) :: (610, .iload_n 3, 1, 0, 0, 0) :: (611, .iconst 2, 1, 2, 0, 0) :: (612, .iadd, 1, 0, 0, 0) :: (613, .iaload, 1, 0, 0, 0) :: (614, .ifCond .eq 7, 3, 621, 0, 0) :: (617, .iconst 1, 1, 1, 0, 0) :: (618, .goto 4, 3, 622, 0, 0) :: k_L_law_621
def k_L_law_570 : List Ent := (570, .aload_n 1, 1, 0, 0, 0) :: (571, .aload_n 0, 1, 0, 0, 0) :: (572, .iload_n 3, 1, 0, 0, 0) :: (573, .iconst 1, 1, 1, 0, 0) :: (574, .iadd, 1, 0, 0, 0) :: (575, .iaload, 1, 0, 0, 0) :: (576, .aload_n 0, 1, 0, 0, 0) :: (577, .iload_n 3, 1, 0, 0, 0) :: (578, .iconst 2, 1, 2, 0, 0) :: (579, .iadd, 1, 0, 0, 0) :: (580, .iaload, 1, 0, 0, 0) :: (581, .invokevirtual 56, 3, 47, 0, 0) :: (584, .aload_n 2, 1, 0, 0, 0) :: (585, .aload_n 0, 1, 0, 0, 0) :: (586, .iload_n 3, 1, 0, 0, 0) :: (587, .iconst 1, 1, 1, 0, 0) :: (588, .iadd, 1, 0, 0, 0) :: (589, .iaload, 1, 0, 0, 0) :: (590, .aload_n 0, 1, 0, 0, 0) :: (591, .iload_n 3, 1, 0, 0, 0) :: (592, .iconst 2, 1, 2, 0, 0) :: (593, .iadd, 1, 0, 0, 0) :: (594, .iaload, 1, 0, 0, 0) :: (595, .invokevirtual 59, 3, 117, 0, 0) :: (598, .if_icmp .eq 467, 3, 1065, 0, 0) :: (601, .iconst 0, 1, 0, 0, 0) :: (602, .ireturn, 1, 0, 0, 0) :: k_L_law_603
def k_L_law_537 : List Ent := (537, .aload_n 1, 1, 0, 0, 0) :: (538, .aload_n 0, 1, 0, 0, 0) :: (539, .iload_n 3, 1, 0, 0, 0) :: (540, .iconst 1, 1, 1, 0, 0) :: (541, .iadd, 1, 0, 0, 0) :: (542, .iaload, 1, 0, 0, 0) :: (543, .aload_n 0, 1, 0, 0, 0) :: (544, .iload_n 3, 1, 0, 0, 0) :: (545, .iconst 2, 1, 2, 0, 0) :: (546, .iadd, 1, 0, 0, 0) :: (547, .iaload, 1, 0, 0, 0) :: (548, .invokevirtual 51, 3, 46, 0, 0) :: (551, .aload_n 2, 1, 0, 0, 0) :: (552, .aload_n 0, 1, 0, 0, 0) :: (553, .iload_n 3, 1, 0, 0, 0) :: (554, .iconst 1, 1, 1, 0, 0) :: (555, .iadd, 1, 0, 0, 0) :: (556, .iaload, 1, 0, 0, 0) :: (557, .aload_n 0, 1, 0, 0, 0) :: (558, .iload_n 3, 1, 0, 0, 0) :: (559, .iconst 2, 1, 2, 0, 0) :: (560, .iadd, 1, 0, 0, 0) :: (561, .iaload, 1, 0, 0, 0) :: (562, .invokevirtual 55, 3, 116, 0, 0) :: (565, .if_icmp .eq 500, 3, 1065, 0, 0) :: (568, .iconst 0, 1, 0, 0, 0) :: (569, .ireturn, 1, 0, 0, 0) :: k_L_law_570
def k_L_law_494 : List Ent := (494, .aload_n 1, 1, 0, 0, 0) :: (495, .aload_n 0, 1, 0, 0, 0) :: (496, .iload_n 3, 1, 0, 0, 0) :: (497, .iconst 1, 1, 1, 0, 0) :: (498, .iadd, 1, 0, 0, 0) :: (499, .iaload, 1, 0, 0, 0) :: (500, .aload_n 0, 1, 0, 0, 0) :: (501, .iload_n 3, 1, 0, 0, 0) :: (502, .iconst 2, 1, 2, 0, 0) :: (503, .iadd, 1, 0, 0, 0) :: (504, .iaload, 1, 0, 0, 0) :: (505, .aload_n 0, 1, 0, 0, 0) :: (506, .iload_n 3, 1, 0, 0, 0) :: (507, .iconst 3, 1, 3, 0, 0) :: (508, .iadd, 1, 0, 0, 0) :: (509, .iaload, 1, 0, 0, 0) :: (510, .invokevirtual 47, 3, 45, 0, 0) :: (513, .aload_n 2, 1, 0, 0, 0) :: (514, .aload_n 0, 1, 0, 0, 0) :: (515, .iload_n 3, 1, 0, 0, 0) :: (516, .iconst 1, 1, 1, 0, 0) :: (517, .iadd, 1, 0, 0, 0) :: (518, .iaload, 1, 0, 0, 0) :: (519, .aload_n 0, 1, 0, 0, 0) :: (520, .iload_n 3, 1, 0, 0, 0) :: (521, .iconst 2, 1, 2, 0, 0) :: (522, .iadd, 1, 0, 0, 0) :: (523, .iaload, 1, 0, 0, 0) :: (524, .aload_n 0, 1, 0, 0, 0) :: (525, .iload_n 3, 1, 0, 0, 0) :: (526, .iconst 3, 1, 3, 0, 0) :: (527, .iadd, 1, 0, 0, 0) :: (528, .iaload, 1, 0, 0, 0) :: (529, .invokevirtual 50, 3, 114, 0, 0) :: (532, .if_icmp .eq 533, 3, 1065, 0, 0) :: (535, .iconst 0, 1, 0, 0, 0) :: (536, .ireturn, 1, 0, 0, 0) :: k_L_law_537
def k_L_law_451 : List Ent := (451, .aload_n 1, 1, 0, 0, 0) :: (452, .aload_n 0, 1, 0, 0, 0) :: (453, .iload_n 3, 1, 0, 0, 0) :: (454, .iconst 1, 1, 1, 0, 0) :: (455, .iadd, 1, 0, 0, 0) :: (456, .iaload, 1, 0, 0, 0) :: (457, .aload_n 0, 1, 0, 0, 0) :: (458, .iload_n 3, 1, 0, 0, 0) :: (459, .iconst 2, 1, 2, 0, 0) :: (460, .iadd, 1, 0, 0, 0) :: (461, .iaload, 1, 0, 0, 0) :: (462, .aload_n 0, 1, 0, 0, 0) :: (463, .iload_n 3, 1, 0, 0, 0) :: (464, .iconst 3, 1, 3, 0, 0) :: (465, .iadd, 1, 0, 0, 0) :: (466, .iaload, 1, 0, 0, 0) :: (467, .invokevirtual 43, 3, 44, 0, 0) :: (470, .aload_n 2, 1, 0, 0, 0) :: (471, .aload_n 0, 1, 0, 0, 0) :: (472, .iload_n 3, 1, 0, 0, 0) :: (473, .iconst 1, 1, 1, 0, 0) :: (474, .iadd, 1, 0, 0, 0) :: (475, .iaload, 1, 0, 0, 0) :: (476, .aload_n 0, 1, 0, 0, 0) :: (477, .iload_n 3, 1, 0, 0, 0) :: (478, .iconst 2, 1, 2, 0, 0) :: (479, .iadd, 1, 0, 0, 0) :: (480, .iaload, 1, 0, 0, 0) :: (481, .aload_n 0, 1, 0, 0, 0) :: (482, .iload_n 3, 1, 0, 0, 0) :: (483, .iconst 3, 1, 3, 0, 0) :: (484, .iadd, 1, 0, 0, 0) :: (485, .iaload, 1, 0, 0, 0) :: (486, .invokevirtual 46, 3, 113, 0, 0) :: (489, .if_icmp .eq 576, 3, 1065, 0, 0) :: (492, .iconst 0, 1, 0, 0, 0) :: (493, .ireturn, 1, 0, 0, 0) :: k_L_law_494
def k_L_law_408 : List Ent := (408, .aload_n 1, 1, 0, 0, 0) :: (409, .aload_n 0, 1, 0, 0, 0) :: (410, .iload_n 3, 1, 0, 0, 0) :: (411, .iconst 1, 1, 1, 0, 0) :: (412, .iadd, 1, 0, 0, 0) :: (413, .iaload, 1, 0, 0, 0) :: (414, .aload_n 0, 1, 0, 0, 0) :: (415, .iload_n 3, 1, 0, 0, 0) :: (416, .iconst 2, 1, 2, 0, 0) :: (417, .iadd, 1, 0, 0, 0) :: (418, .iaload, 1, 0, 0, 0) :: (419, .aload_n 0, 1, 0, 0, 0) :: (420, .iload_n 3, 1, 0, 0, 0) :: (421, .iconst 3, 1, 3, 0, 0) :: (422, .iadd, 1, 0, 0, 0) :: (423, .iaload, 1, 0, 0, 0) :: (424, .invokevirtual 39, 3, 43, 0, 0) :: (427, .aload_n 2, 1, 0, 0, 0) :: (428, .aload_n 0, 1, 0, 0, 0) :: (429, .iload_n 3, 1, 0, 0, 0) :: (430, .iconst 1, 1, 1, 0, 0) :: (431, .iadd, 1, 0, 0, 0) :: (432, .iaload, 1, 0, 0, 0) :: (433, .aload_n 0, 1, 0, 0, 0) :: (434, .iload_n 3, 1, 0, 0, 0) :: (435, .iconst 2, 1, 2, 0, 0) :: (436, .iadd, 1, 0, 0, 0) :: (437, .iaload, 1, 0, 0, 0) :: (438, .aload_n 0, 1, 0, 0, 0) :: (439, .iload_n 3, 1, 0, 0, 0) :: (440, .iconst 3, 1, 3, 0, 0) :: (441, .iadd, 1, 0, 0, 0) :: (442, .iaload, 1, 0, 0, 0) :: (443, .invokevirtual 42, 3, 112, 0, 0) :: (446, .if_icmp .eq 619, 3, 1065, 0, 0) :: (449, .iconst 0, 1, 0, 0, 0) :: (450, .ireturn, 1, 0, 0, 0) :: k_L_law_451
def k_L_law_365 : List Ent := (365, .aload_n 1, 1, 0, 0, 0) :: (366, .aload_n 0, 1, 0, 0, 0) :: (367, .iload_n 3, 1, 0, 0, 0) :: (368, .iconst 1, 1, 1, 0, 0) :: (369, .iadd, 1, 0, 0, 0) :: (370, .iaload, 1, 0, 0, 0) :: (371, .aload_n 0, 1, 0, 0, 0) :: (372, .iload_n 3, 1, 0, 0, 0) :: (373, .iconst 2, 1, 2, 0, 0) :: (374, .iadd, 1, 0, 0, 0) :: (375, .iaload, 1, 0, 0, 0) :: (376, .aload_n 0, 1, 0, 0, 0) :: (377, .iload_n 3, 1, 0, 0, 0) :: (378, .iconst 3, 1, 3, 0, 0) :: (379, .iadd, 1, 0, 0, 0) :: (380, .iaload, 1, 0, 0, 0) :: (381, .invokevirtual 35, 3, 42, 0, 0) :: (384, .aload_n 2, 1, 0, 0, 0) :: (385, .aload_n 0, 1, 0, 0, 0) :: (386, .iload_n 3, 1, 0, 0, 0) :: (387, .iconst 1, 1, 1, 0, 0) :: (388, .iadd, 1, 0, 0, 0) :: (389, .iaload, 1, 0, 0, 0) :: (390, .aload_n 0, 1, 0, 0, 0) :: (391, .iload_n 3, 1, 0, 0, 0) :: (392, .iconst 2, 1, 2, 0, 0) :: (393, .iadd, 1, 0, 0, 0) :: (394, .iaload, 1, 0, 0, 0) :: (395, .aload_n 0, 1, 0, 0, 0) :: (396, .iload_n 3, 1, 0, 0, 0) :: (397, .iconst 3, 1, 3, 0, 0) :: (398, .iadd, 1, 0, 0, 0) :: (399, .iaload, 1, 0, 0, 0) :: (400, .invokevirtual 38, 3, 88, 0, 0) :: (403, .if_icmp .eq 662, 3, 1065, 0, 0) :: (406, .iconst 0, 1, 0, 0, 0) :: (407, .ireturn, 1, 0, 0, 0) :: k_L_law_408
def k_L_law_312 : List Ent := (312, .aload_n 1, 1, 0, 0, 0) :: (313, .aload_n 0, 1, 0, 0, 0) :: (314, .iload_n 3, 1, 0, 0, 0) :: (315, .iconst 1, 1, 1, 0, 0) :: (316, .iadd, 1, 0, 0, 0) :: (317, .iaload, 1, 0, 0, 0) :: (318, .aload_n 0, 1, 0, 0, 0) :: (319, .iload_n 3, 1, 0, 0, 0) :: (320, .iconst 2, 1, 2, 0, 0) :: (321, .iadd, 1, 0, 0, 0) :: (322, .iaload, 1, 0, 0, 0) :: (323, .aload_n 0, 1, 0, 0, 0) :: (324, .iload_n 3, 1, 0, 0, 0) :: (325, .iconst 3, 1, 3, 0, 0) :: (326, .iadd, 1, 0, 0, 0) :: (327, .iaload, 1, 0, 0, 0) :: (328, .aload_n 0, 1, 0, 0, 0) :: (329, .iload_n 3, 1, 0, 0, 0) :: (330, .iconst 4, 1, 4, 0, 0) :: (331, .iadd, 1, 0, 0, 0) :: (332, .iaload, 1, 0, 0, 0) :: (333, .invokevirtual 30, 3, 41, 0, 0) :: (336, .aload_n 2, 1, 0, 0, 0) :: (337, .aload_n 0, 1, 0, 0, 0) :: (338, .iload_n 3, 1, 0, 0, 0) :: (339, .iconst 1, 1, 1, 0, 0) :: (340, .iadd, 1, 0, 0, 0) :: (341, .iaload, 1, 0, 0, 0) :: (342, .aload_n 0, 1, 0, 0, 0) :: (343, .iload_n 3, 1, 0, 0, 0) :: (344, .iconst 2, 1, 2, 0, 0) :: (345, .iadd, 1, 0, 0, 0) :: (346, .iaload, 1, 0, 0, 0) :: (347, .aload_n 0, 1, 0, 0, 0) :: (348, .iload_n 3, 1, 0, 0, 0) :: (349, .iconst 3, 1, 3, 0, 0) :: (350, .iadd, 1, 0, 0, 0) :: (351, .iaload, 1, 0, 0, 0) :: (352, .aload_n 0, 1, 0, 0, 0) :: (353, .iload_n 3, 1, 0, 0, 0) :: (354, .iconst 4, 1, 4, 0, 0) :: (355, .iadd, 1, 0, 0, 0) :: (356, .iaload, 1, 0, 0, 0) :: (357, .invokevirtual 34, 3, 87, 0, 0) :: (360, .if_icmp .eq 705, 3, 1065, 0, 0) :: (363, .iconst 0, 1, 0, 0, 0) :: (364, .ireturn, 1, 0, 0, 0) :: k_L_law_365
def k_L_law_269 : List Ent := (269, .aload_n 1, 1, 0, 0, 0) :: (270, .aload_n 0, 1, 0, 0, 0) :: (271, .iload_n 3, 1, 0, 0, 0) :: (272, .iconst 1, 1, 1, 0, 0) :: (273, .iadd, 1, 0, 0, 0) :: (274, .iaload, 1, 0, 0, 0) :: (275, .aload_n 0, 1, 0, 0, 0) :: (276, .iload_n 3, 1, 0, 0, 0) :: (277, .iconst 2, 1, 2, 0, 0) :: (278, .iadd, 1, 0, 0, 0) :: (279, .iaload, 1, 0, 0, 0) :: (280, .aload_n 0, 1, 0, 0, 0) :: (281, .iload_n 3, 1, 0, 0, 0) :: (282, .iconst 3, 1, 3, 0, 0) :: (283, .iadd, 1, 0, 0, 0) :: (284, .iaload, 1, 0, 0, 0) :: (285, .invokevirtual 26, 3, 40, 0, 0) :: (288, .aload_n 2, 1, 0, 0, 0) :: (289, .aload_n 0, 1, 0, 0, 0) :: (290, .iload_n 3, 1, 0, 0, 0) :: (291, .iconst 1, 1, 1, 0, 0) :: (292, .iadd, 1, 0, 0, 0) :: (293, .iaload, 1, 0, 0, 0) :: (294, .aload_n 0, 1, 0, 0, 0) :: (295, .iload_n 3, 1, 0, 0, 0) :: (296, .iconst 2, 1, 2, 0, 0) :: (297, .iadd, 1, 0, 0, 0) :: (298, .iaload, 1, 0, 0, 0) :: (299, .aload_n 0, 1, 0, 0, 0) :: (300, .iload_n 3, 1, 0, 0, 0) :: (301, .iconst 3, 1, 3, 0, 0) :: (302, .iadd, 1, 0, 0, 0) :: (303, .iaload, 1, 0, 0, 0) :: (304, .invokevirtual 29, 3, 86, 0, 0) :: (307, .if_icmp .eq 758, 3, 1065, 0, 0) :: (310, .iconst 0, 1, 0, 0, 0) :: (311, .ireturn, 1, 0, 0, 0) :: k_L_law_312
def k_L_law_226 : List Ent := (226, .aload_n 1, 1, 0, 0, 0) :: (227, .aload_n 0, 1, 0, 0, 0) :: (228, .iload_n 3, 1, 0, 0, 0) :: (229, .iconst 1, 1, 1, 0, 0) :: (230, .iadd, 1, 0, 0, 0) :: (231, .iaload, 1, 0, 0, 0) :: (232, .aload_n 0, 1, 0, 0, 0) :: (233, .iload_n 3, 1, 0, 0, 0) :: (234, .iconst 2, 1, 2, 0, 0) :: (235, .iadd, 1, 0, 0, 0) :: (236, .iaload, 1, 0, 0, 0) :: (237, .aload_n 0, 1, 0, 0, 0) :: (238, .iload_n 3, 1, 0, 0, 0) :: (239, .iconst 3, 1, 3, 0, 0) :: (240, .iadd, 1, 0, 0, 0) :: (241, .iaload, 1, 0, 0, 0) :: (242, .invokevirtual 22, 3, 39, 0, 0) :: (245, .aload_n 2, 1, 0, 0, 0) :: (246, .aload_n 0, 1, 0, 0, 0) :: (247, .iload_n 3, 1, 0, 0, 0) :: (248, .iconst 1, 1, 1, 0, 0) :: (249, .iadd, 1, 0, 0, 0) :: (250, .iaload, 1, 0, 0, 0) :: (251, .aload_n 0, 1, 0, 0, 0) :: (252, .iload_n 3, 1, 0, 0, 0) :: (253, .iconst 2, 1, 2, 0, 0) :: (254, .iadd, 1, 0, 0, 0) :: (255, .iaload, 1, 0, 0, 0) :: (256, .aload_n 0, 1, 0, 0, 0) :: (257, .iload_n 3, 1, 0, 0, 0) :: (258, .iconst 3, 1, 3, 0, 0) :: (259, .iadd, 1, 0, 0, 0) :: (260, .iaload, 1, 0, 0, 0) :: (261, .invokevirtual 25, 3, 85, 0, 0) :: (264, .if_icmp .eq 801, 3, 1065, 0, 0) :: (267, .iconst 0, 1, 0, 0, 0) :: (268, .ireturn, 1, 0, 0, 0) :: k_L_law_269
def k_L_law_183 : List Ent := (183, .aload_n 1, 1, 0, 0, 0) :: (184, .aload_n 0, 1, 0, 0, 0) :: (185, .iload_n 3, 1, 0, 0, 0) :: (186, .iconst 1, 1, 1, 0, 0) :: (187, .iadd, 1, 0, 0, 0) :: (188, .iaload, 1, 0, 0, 0) :: (189, .aload_n 0, 1, 0, 0, 0) :: (190, .iload_n 3, 1, 0, 0, 0) :: (191, .iconst 2, 1, 2, 0, 0) :: (192, .iadd, 1, 0, 0, 0) :: (193, .iaload, 1, 0, 0, 0) :: (194, .aload_n 0, 1, 0, 0, 0) :: (195, .iload_n 3, 1, 0, 0, 0) :: (196, .iconst 3, 1, 3, 0, 0) :: (197, .iadd, 1, 0, 0, 0) :: (198, .iaload, 1, 0, 0, 0) :: (199, .invokevirtual 18, 3, 38, 0, 0) :: (202, .aload_n 2, 1, 0, 0, 0) :: (203, .aload_n 0, 1, 0, 0, 0) :: (204, .iload_n 3, 1, 0, 0, 0) :: (205, .iconst 1, 1, 1, 0, 0) :: (206, .iadd, 1, 0, 0, 0) :: (207, .iaload, 1, 0, 0, 0) :: (208, .aload_n 0, 1, 0, 0, 0) :: (209, .iload_n 3, 1, 0, 0, 0) :: (210, .iconst 2, 1, 2, 0, 0) :: (211, .iadd, 1, 0, 0, 0) :: (212, .iaload, 1, 0, 0, 0) :: (213, .aload_n 0, 1, 0, 0, 0) :: (214, .iload_n 3, 1, 0, 0, 0) :: (215, .iconst 3, 1, 3, 0, 0) :: (216, .iadd, 1, 0, 0, 0) :: (217, .iaload, 1, 0, 0, 0) :: (218, .invokevirtual 21, 3, 84, 0, 0) :: (221, .if_icmp .eq 844, 3, 1065, 0, 0) :: (224, .iconst 0, 1, 0, 0, 0) :: (225, .ireturn, 1, 0, 0, 0) :: k_L_law_226
def k_L_law_140 : List Ent := (140, .aload_n 1, 1, 0, 0, 0) :: (141, .aload_n 0, 1, 0, 0, 0) :: (142, .iload_n 3, 1, 0, 0, 0) :: (143, .iconst 1, 1, 1, 0, 0) :: (144, .iadd, 1, 0, 0, 0) :: (145, .iaload, 1, 0, 0, 0) :: (146, .aload_n 0, 1, 0, 0, 0) :: (147, .iload_n 3, 1, 0, 0, 0) :: (148, .iconst 2, 1, 2, 0, 0) :: (149, .iadd, 1, 0, 0, 0) :: (150, .iaload, 1, 0, 0, 0) :: (151, .aload_n 0, 1, 0, 0, 0) :: (152, .iload_n 3, 1, 0, 0, 0) :: (153, .iconst 3, 1, 3, 0, 0) :: (154, .iadd, 1, 0, 0, 0) :: (155, .iaload, 1, 0, 0, 0) :: (156, .invokevirtual 13, 3, 37, 0, 0) :: (159, .aload_n 2, 1, 0, 0, 0) :: (160, .aload_n 0, 1, 0, 0, 0) :: (161, .iload_n 3, 1, 0, 0, 0) :: (162, .iconst 1, 1, 1, 0, 0) :: (163, .iadd, 1, 0, 0, 0) :: (164, .iaload, 1, 0, 0, 0) :: (165, .aload_n 0, 1, 0, 0, 0) :: (166, .iload_n 3, 1, 0, 0, 0) :: (167, .iconst 2, 1, 2, 0, 0) :: (168, .iadd, 1, 0, 0, 0) :: (169, .iaload, 1, 0, 0, 0) :: (170, .aload_n 0, 1, 0, 0, 0) :: (171, .iload_n 3, 1, 0, 0, 0) :: (172, .iconst 3, 1, 3, 0, 0) :: (173, .iadd, 1, 0, 0, 0) :: (174, .iaload, 1, 0, 0, 0) :: (175, .invokevirtual 17, 3, 82, 0, 0) :: (178, .if_icmp .eq 887, 3, 1065, 0, 0) :: (181, .iconst 0, 1, 0, 0, 0) :: (182, .ireturn, 1, 0, 0, 0) :: k_L_law_183
def k_L_law_18 : List Ent := (18, .iload_n 3, 1, 0, 0, 0) :: (19, .aload_n 0, 1, 0, 0, 0) :: (20, .arraylength, 1, 0, 0, 0) :: (21, .iconst 5, 1, 5, 0, 0) :: (22, .isub, 1, 0, 0, 0) :: (23, .if_icmp .gt 1048, 3, 1071, 0, 0) :: (26, .aload_n 0, 1, 0, 0, 0) :: (27, .iload_n 3, 1, 0, 0, 0) :: (28, .iaload, 1, 0, 0, 0) :: (29, .bipush 31, 2, 31, 0, 0) :: (31, .iand, 1, 0, 0, 0) :: (32, .tableswitch 1033 0 22 #[108, 151, 194, 237, 280, 333, 376, 419, 462, 505, 538, 571, 620, 653, 696, 729, 762, 795, 838, 871, 914, 947, 1000], 108, 0, 0, 0) :: k_L_law_140
def k_L_law_0 : List Ent := (0, .new 7, 3, 9, 2, 0) :: (3, .dup, 1, 0, 0, 0) :: (4, .invokespecial 9, 3, 36, 0, 1) :: (7, .astore_n 1, 1, 0, 0, 0) :: (8, .new 10, 3, 10, 24, 0) :: (11, .dup, 1, 0, 0, 0) :: (12, .invokespecial 12, 3, 71, 0, 1) :: (15, .astore_n 2, 1, 0, 0, 0) :: (16, .iconst 0, 1, 0, 0, 0) :: (17, .istore_n 3, 1, 0, 0, 0) :: k_L_law_18
def M_L_law : MI := (yL_law, cL_law, 4, (some .boolean), 12, 277, 18, 1, 0, k_L_law_0)
set_option maxRecDepth 100000 in
theorem sk_L_law_18 : sm_seek (mP M_L_law) 18 = k_L_law_18 := rfl
set_option maxRecDepth 100000 in
theorem sk_L_law_140 : sm_seek (mP M_L_law) 140 = k_L_law_140 := rfl
set_option maxRecDepth 100000 in
theorem sk_L_law_183 : sm_seek (mP M_L_law) 183 = k_L_law_183 := rfl
set_option maxRecDepth 100000 in
theorem sk_L_law_226 : sm_seek (mP M_L_law) 226 = k_L_law_226 := rfl
set_option maxRecDepth 100000 in
theorem sk_L_law_269 : sm_seek (mP M_L_law) 269 = k_L_law_269 := rfl
set_option maxRecDepth 100000 in
theorem sk_L_law_312 : sm_seek (mP M_L_law) 312 = k_L_law_312 := rfl
set_option maxRecDepth 100000 in
theorem sk_L_law_365 : sm_seek (mP M_L_law) 365 = k_L_law_365 := rfl
set_option maxRecDepth 100000 in
theorem sk_L_law_408 : sm_seek (mP M_L_law) 408 = k_L_law_408 := rfl
set_option maxRecDepth 100000 in
theorem sk_L_law_451 : sm_seek (mP M_L_law) 451 = k_L_law_451 := rfl
set_option maxRecDepth 100000 in
theorem sk_L_law_494 : sm_seek (mP M_L_law) 494 = k_L_law_494 := rfl
set_option maxRecDepth 100000 in
theorem sk_L_law_537 : sm_seek (mP M_L_law) 537 = k_L_law_537 := rfl
set_option maxRecDepth 100000 in
theorem sk_L_law_570 : sm_seek (mP M_L_law) 570 = k_L_law_570 := rfl
set_option maxRecDepth 100000 in
theorem sk_L_law_603 : sm_seek (mP M_L_law) 603 = k_L_law_603 := rfl
set_option maxRecDepth 100000 in
theorem sk_L_law_621 : sm_seek (mP M_L_law) 621 = k_L_law_621 := rfl
set_option maxRecDepth 100000 in
theorem sk_L_law_622 : sm_seek (mP M_L_law) 622 = k_L_law_622 := rfl
set_option maxRecDepth 100000 in
theorem sk_L_law_643 : sm_seek (mP M_L_law) 643 = k_L_law_643 := rfl
set_option maxRecDepth 100000 in
theorem sk_L_law_644 : sm_seek (mP M_L_law) 644 = k_L_law_644 := rfl
set_option maxRecDepth 100000 in
theorem sk_L_law_652 : sm_seek (mP M_L_law) 652 = k_L_law_652 := rfl
set_option maxRecDepth 100000 in
theorem sk_L_law_685 : sm_seek (mP M_L_law) 685 = k_L_law_685 := rfl
set_option maxRecDepth 100000 in
theorem sk_L_law_728 : sm_seek (mP M_L_law) 728 = k_L_law_728 := rfl
set_option maxRecDepth 100000 in
theorem sk_L_law_761 : sm_seek (mP M_L_law) 761 = k_L_law_761 := rfl
set_option maxRecDepth 100000 in
theorem sk_L_law_794 : sm_seek (mP M_L_law) 794 = k_L_law_794 := rfl
set_option maxRecDepth 100000 in
theorem sk_L_law_827 : sm_seek (mP M_L_law) 827 = k_L_law_827 := rfl
set_option maxRecDepth 100000 in
theorem sk_L_law_870 : sm_seek (mP M_L_law) 870 = k_L_law_870 := rfl
set_option maxRecDepth 100000 in
theorem sk_L_law_903 : sm_seek (mP M_L_law) 903 = k_L_law_903 := rfl
set_option maxRecDepth 100000 in
theorem sk_L_law_946 : sm_seek (mP M_L_law) 946 = k_L_law_946 := rfl
set_option maxRecDepth 100000 in
theorem sk_L_law_979 : sm_seek (mP M_L_law) 979 = k_L_law_979 := rfl
set_option maxRecDepth 100000 in
theorem sk_L_law_1032 : sm_seek (mP M_L_law) 1032 = k_L_law_1032 := rfl
set_option maxRecDepth 100000 in
theorem sk_L_law_1065 : sm_seek (mP M_L_law) 1065 = k_L_law_1065 := rfl
set_option maxRecDepth 100000 in
theorem sk_L_law_1071 : sm_seek (mP M_L_law) 1071 = k_L_law_1071 := rfl
def ow : List String := ["ReplicaStore$Change", "ReplicaStore$Clock", "ReplicaStore$Letter", "ReplicaStore$Message", "ReplicaStore$Operation", "ReplicaStore$Replica", "ReplicaStore$Text", "ReplicaStore$Way", "ReplicaStore", "ReplicaStoreModel", "java/lang/Integer", "java/util/AbstractCollection", "java/util/AbstractList", "java/util/ArrayList", "java/util/Arrays", "java/util/Objects", "jdk/internal/util/ArraysSupport", "jdk/internal/util/Preconditions", "ReplicaStoreLaw"]
def tF : List (Nat × Nat × Nat × Nat) := [(0, 7, 1, 0), (0, 13, 1, 1), (0, 16, 1, 2), (0, 19, 1, 3), (1, 9, 2, 32), (1, 15, 5, 129), (1, 21, 5, 130), (2, 7, 3, 64), (3, 9, 4, 96), (3, 15, 5, 129), (3, 20, 4, 97), (3, 23, 5, 132), (3, 27, 4, 98), (3, 28, 4, 99), (4, 7, 5, 128), (4, 13, 5, 129), (4, 17, 2, 32), (4, 23, 5, 130), (4, 26, 5, 131), (4, 29, 5, 132), (4, 33, 1, 1), (4, 38, 1, 2), (5, 11, 6, 161), (5, 17, 6, 162), (5, 24, 6, 163), (5, 30, 6, 164), (5, 36, 6, 165), (5, 40, 6, 166), (5, 43, 6, 167), (5, 46, 6, 168), (5, 50, 6, 169), (5, 54, 6, 160), (5, 61, 2, 32), (5, 77, 5, 128), (5, 81, 1, 1), (5, 86, 1, 2), (5, 100, 4, 97), (5, 105, 4, 98), (5, 116, 4, 99), (5, 143, 5, 132), (5, 144, 5, 129), (5, 147, 5, 130), (5, 150, 5, 131), (5, 163, 1, 0), (6, 12, 7, 192), (6, 18, 3, 66), (6, 21, 3, 65), (6, 25, 5, 128), (6, 31, 1, 3), (6, 41, 3, 64), (7, 12, 8, 224), (8, 11, 9, 256), (8, 17, 9, 257), (8, 47, 6, 165), (8, 57, 3, 64), (8, 67, 6, 169), (8, 75, 8, 224), (8, 91, 4, 96), (8, 95, 4, 98), (8, 126, 6, 162), (8, 139, 6, 164), (8, 143, 5, 128), (8, 149, 1, 2), (8, 158, 6, 161), (8, 162, 2, 32), (8, 167, 6, 168), (8, 170, 6, 166), (8, 173, 6, 167), (8, 182, 5, 129), (8, 185, 5, 130), (8, 192, 4, 97), (8, 195, 4, 99), (8, 198, 5, 131), (9, 7, 10, 288), (9, 13, 10, 289), (9, 16, 10, 290), (9, 19, 10, 291), (9, 22, 10, 292), (9, 25, 10, 293), (9, 28, 10, 294), (9, 31, 10, 295), (9, 35, 10, 296), (9, 38, 10, 297), (9, 41, 10, 298), (9, 44, 10, 299), (9, 47, 10, 300), (9, 50, 10, 301), (9, 53, 10, 302), (9, 56, 10, 303), (9, 59, 10, 304), (9, 62, 10, 305), (9, 65, 10, 306), (9, 68, 10, 307), (9, 71, 10, 308), (9, 74, 10, 310), (9, 77, 10, 311), (9, 80, 10, 309), (12, 7, 11, 320), (13, 9, 11, 321), (13, 48, 11, 322), (13, 63, 11, 320)]
def tFx : List (Nat × Nat × Nat × Nat × Nat) := [(227, 0, 7, 1, 0), (229, 0, 13, 1, 1), (232, 0, 16, 1, 2), (236, 0, 19, 1, 3), (119, 1, 9, 2, 32), (281, 1, 15, 5, 129), (285, 1, 21, 5, 130), (137, 2, 7, 3, 64), (442, 3, 9, 4, 96), (280, 3, 15, 5, 129), (444, 3, 20, 4, 97), (291, 3, 23, 5, 132), (447, 3, 27, 4, 98), (450, 3, 28, 4, 99), (275, 4, 7, 5, 128), (279, 4, 13, 5, 129), (120, 4, 17, 2, 32), (284, 4, 23, 5, 130), (288, 4, 26, 5, 131), (292, 4, 29, 5, 132), (230, 4, 33, 1, 1), (233, 4, 38, 1, 2), (154, 5, 11, 6, 161), (156, 5, 17, 6, 162), (158, 5, 24, 6, 163), (159, 5, 30, 6, 164), (161, 5, 36, 6, 165), (163, 5, 40, 6, 166), (165, 5, 43, 6, 167), (167, 5, 46, 6, 168), (169, 5, 50, 6, 169), (153, 5, 54, 6, 160), (121, 5, 61, 2, 32), (276, 5, 77, 5, 128), (231, 5, 81, 1, 1), (234, 5, 86, 1, 2), (445, 5, 100, 4, 97), (448, 5, 105, 4, 98), (451, 5, 116, 4, 99), (293, 5, 143, 5, 132), (282, 5, 144, 5, 129), (286, 5, 147, 5, 130), (289, 5, 150, 5, 131), (228, 5, 163, 1, 0), (149, 6, 12, 7, 192), (141, 6, 18, 3, 66), (140, 6, 21, 3, 65), (277, 6, 25, 5, 128), (237, 6, 31, 1, 3), (138, 6, 41, 3, 64), (199, 7, 12, 8, 224), (204, 8, 11, 9, 256), (205, 8, 17, 9, 257), (162, 8, 47, 6, 165), (139, 8, 57, 3, 64), (170, 8, 67, 6, 169), (200, 8, 75, 8, 224), (443, 8, 91, 4, 96), (449, 8, 95, 4, 98), (157, 8, 126, 6, 162), (160, 8, 139, 6, 164), (278, 8, 143, 5, 128), (235, 8, 149, 1, 2), (155, 8, 158, 6, 161), (122, 8, 162, 2, 32), (168, 8, 167, 6, 168), (164, 8, 170, 6, 166), (166, 8, 173, 6, 167), (283, 8, 182, 5, 129), (287, 8, 185, 5, 130), (446, 8, 192, 4, 97), (452, 8, 195, 4, 99), (290, 8, 198, 5, 131), (660, 9, 7, 10, 288), (661, 9, 13, 10, 289), (662, 9, 16, 10, 290), (663, 9, 19, 10, 291), (664, 9, 22, 10, 292), (665, 9, 25, 10, 293), (666, 9, 28, 10, 294), (667, 9, 31, 10, 295), (668, 9, 35, 10, 296), (669, 9, 38, 10, 297), (670, 9, 41, 10, 298), (671, 9, 44, 10, 299), (672, 9, 47, 10, 300), (673, 9, 50, 10, 301), (674, 9, 53, 10, 302), (675, 9, 56, 10, 303), (676, 9, 59, 10, 304), (677, 9, 62, 10, 305), (678, 9, 65, 10, 306), (679, 9, 68, 10, 307), (680, 9, 71, 10, 308), (682, 9, 74, 10, 310), (683, 9, 77, 10, 311), (681, 9, 80, 10, 309), (99, 12, 7, 11, 320), (97, 13, 9, 11, 321), (98, 13, 48, 11, 322), (100, 13, 63, 11, 320)]
theorem tF_x : tF = tFx.map (fun r => r.2) := by decide +kernel
def tM : List (Nat × Nat × Nat × Nat) := [(5, 23, 128, 0), (5, 57, 1, 0), (5, 60, 26, 1), (5, 69, 131, 0), (5, 73, 134, 0), (5, 89, 12, 0), (5, 93, 7, 0), (5, 96, 20, 0), (5, 109, 3, 0), (5, 113, 25, 0), (5, 120, 2, 0), (5, 124, 16, 0), (5, 127, 136, 0), (5, 131, 17, 0), (5, 134, 18, 0), (5, 137, 137, 0), (5, 140, 19, 0), (5, 157, 21, 0), (5, 160, 24, 0), (5, 166, 22, 0), (5, 169, 23, 0), (5, 172, 30, 0), (5, 175, 31, 0), (5, 178, 9, 0), (5, 181, 8, 0), (6, 9, 4, 0), (6, 37, 32, 0), (6, 44, 8, 0), (7, 11, 128, 0), (7, 18, 131, 0), (7, 22, 34, 0), (7, 26, 136, 0), (8, 21, 10, 0), (8, 24, 33, 1), (8, 25, 60, 0), (8, 29, 61, 0), (8, 34, 0, 0), (8, 37, 68, 0), (8, 41, 62, 0), (8, 44, 63, 0), (8, 51, 29, 0), (8, 63, 66, 0), (8, 71, 67, 0), (8, 79, 137, 0), (8, 87, 15, 0), (8, 99, 70, 0), (8, 103, 34, 0), (8, 107, 134, 0), (8, 110, 35, 0), (8, 114, 131, 0), (8, 118, 69, 0), (8, 122, 65, 0), (8, 130, 13, 0), (8, 134, 125, 0), (8, 152, 28, 0), (8, 155, 56, 0), (8, 176, 27, 0), (8, 179, 132, 0), (8, 188, 64, 0), (8, 199, 11, 0), (8, 202, 14, 0), (8, 206, 5, 0), (8, 209, 12, 0), (8, 213, 6, 0), (8, 215, 2, 0), (9, 84, 72, 0), (9, 88, 75, 0), (9, 92, 76, 0), (9, 95, 80, 0), (9, 99, 102, 0), (9, 103, 73, 0), (9, 107, 74, 0), (9, 110, 81, 0), (9, 114, 83, 0), (9, 117, 96, 0), (9, 121, 79, 0), (9, 125, 77, 0), (9, 128, 90, 0), (9, 131, 91, 0), (9, 135, 78, 0), (9, 138, 95, 0), (9, 142, 94, 0), (9, 145, 99, 0), (9, 148, 101, 0), (9, 152, 103, 0), (9, 155, 105, 0), (9, 158, 107, 0), (9, 161, 109, 0), (9, 164, 108, 0), (9, 167, 106, 0), (9, 170, 100, 0), (9, 173, 104, 0), (9, 176, 110, 0), (9, 180, 111, 0), (9, 183, 115, 0), (9, 186, 121, 0), (12, 1, 126, 0), (13, 1, 127, 0), (13, 66, 139, 0), (13, 69, 129, 0), (13, 73, 142, 0), (13, 118, 141, 0), (13, 123, 133, 0), (13, 129, 130, 0), (13, 131, 135, 0), (13, 144, 138, 0), (14, 300, 140, 0), (15, 105, 144, 0), (16, 201, 143, 0), (18, 9, 36, 0), (18, 12, 71, 0), (18, 13, 37, 0), (18, 17, 82, 0), (18, 18, 38, 0), (18, 21, 84, 0), (18, 22, 39, 0), (18, 25, 85, 0), (18, 26, 40, 0), (18, 29, 86, 0), (18, 30, 41, 0), (18, 34, 87, 0), (18, 35, 42, 0), (18, 38, 88, 0), (18, 39, 43, 0), (18, 42, 112, 0), (18, 43, 44, 0), (18, 46, 113, 0), (18, 47, 45, 0), (18, 50, 114, 0), (18, 51, 46, 0), (18, 55, 116, 0), (18, 56, 47, 0), (18, 59, 117, 0), (18, 60, 48, 0), (18, 64, 118, 0), (18, 65, 49, 0), (18, 68, 89, 0), (18, 69, 50, 0), (18, 72, 91, 0), (18, 73, 51, 0), (18, 76, 92, 0), (18, 77, 52, 0), (18, 80, 93, 0), (18, 81, 53, 0), (18, 84, 97, 0), (18, 85, 54, 0), (18, 88, 98, 0), (18, 89, 55, 0), (18, 92, 119, 0), (18, 93, 56, 0), (18, 96, 120, 0), (18, 97, 57, 0), (18, 100, 122, 0), (18, 101, 58, 0), (18, 104, 123, 0), (18, 105, 59, 0), (18, 108, 124, 0)]
def tMx : List (Nat × Nat × Nat × Nat × Nat) := [(85, 5, 23, 128, 0), (115, 5, 57, 1, 0), (127, 5, 60, 26, 1), (376, 5, 69, 131, 0), (380, 5, 73, 134, 0), (259, 5, 89, 12, 0), (271, 5, 93, 7, 0), (305, 5, 96, 20, 0), (523, 5, 109, 3, 0), (528, 5, 113, 25, 0), (398, 5, 120, 2, 0), (532, 5, 124, 16, 0), (316, 5, 127, 136, 0), (536, 5, 131, 17, 0), (540, 5, 134, 18, 0), (402, 5, 137, 137, 0), (544, 5, 140, 19, 0), (312, 5, 157, 21, 0), (432, 5, 160, 24, 0), (372, 5, 166, 22, 0), (411, 5, 169, 23, 0), (419, 5, 172, 30, 0), (428, 5, 175, 31, 0), (394, 5, 178, 9, 0), (415, 5, 181, 8, 0), (133, 6, 9, 4, 0), (423, 6, 37, 32, 0), (427, 6, 44, 8, 0), (198, 7, 11, 128, 0), (474, 7, 18, 131, 0), (470, 7, 22, 34, 0), (475, 7, 26, 136, 0), (77, 8, 21, 10, 0), (193, 8, 24, 33, 1), (215, 8, 25, 60, 0), (218, 8, 29, 61, 0), (223, 8, 34, 0, 0), (247, 8, 37, 68, 0), (480, 8, 41, 62, 0), (495, 8, 44, 63, 0), (498, 8, 51, 29, 0), (510, 8, 63, 66, 0), (462, 8, 71, 67, 0), (518, 8, 79, 137, 0), (519, 8, 87, 15, 0), (548, 8, 99, 70, 0), (552, 8, 103, 34, 0), (553, 8, 107, 134, 0), (466, 8, 110, 35, 0), (517, 8, 114, 131, 0), (572, 8, 118, 69, 0), (584, 8, 122, 65, 0), (595, 8, 130, 13, 0), (603, 8, 134, 125, 0), (617, 8, 152, 28, 0), (629, 8, 155, 56, 0), (638, 8, 176, 27, 0), (642, 8, 179, 132, 0), (514, 8, 188, 64, 0), (251, 8, 199, 11, 0), (255, 8, 202, 14, 0), (438, 8, 206, 5, 0), (556, 8, 209, 12, 0), (557, 8, 213, 6, 0), (555, 8, 215, 2, 0), (741, 9, 84, 72, 0), (755, 9, 88, 75, 0), (825, 9, 92, 76, 0), (751, 9, 95, 80, 0), (758, 9, 99, 102, 0), (738, 9, 103, 73, 0), (744, 9, 107, 74, 0), (747, 9, 110, 81, 0), (770, 9, 114, 83, 0), (785, 9, 117, 96, 0), (793, 9, 121, 79, 0), (821, 9, 125, 77, 0), (817, 9, 128, 90, 0), (832, 9, 131, 91, 0), (797, 9, 135, 78, 0), (789, 9, 138, 95, 0), (801, 9, 142, 94, 0), (853, 9, 145, 99, 0), (762, 9, 148, 101, 0), (860, 9, 152, 103, 0), (888, 9, 155, 105, 0), (876, 9, 158, 107, 0), (868, 9, 161, 109, 0), (872, 9, 164, 108, 0), (884, 9, 167, 106, 0), (849, 9, 170, 100, 0), (856, 9, 173, 104, 0), (864, 9, 176, 110, 0), (880, 9, 180, 111, 0), (904, 9, 183, 115, 0), (928, 9, 186, 121, 0), (91, 12, 1, 126, 0), (88, 13, 1, 127, 0), (340, 13, 66, 139, 0), (328, 13, 69, 129, 0), (332, 13, 73, 142, 0), (384, 13, 118, 141, 0), (390, 13, 123, 133, 0), (324, 13, 129, 130, 0), (320, 13, 131, 135, 0), (406, 13, 144, 138, 0), (358, 14, 300, 140, 0), (387, 15, 105, 144, 0), (337, 16, 201, 143, 0), (66, 18, 9, 36, 0), (656, 18, 12, 71, 0), (211, 18, 13, 37, 0), (734, 18, 17, 82, 0), (476, 18, 18, 38, 0), (766, 18, 21, 84, 0), (483, 18, 22, 39, 0), (773, 18, 25, 85, 0), (487, 18, 26, 40, 0), (777, 18, 29, 86, 0), (491, 18, 30, 41, 0), (781, 18, 34, 87, 0), (502, 18, 35, 42, 0), (805, 18, 38, 88, 0), (506, 18, 39, 43, 0), (845, 18, 42, 112, 0), (560, 18, 43, 44, 0), (892, 18, 46, 113, 0), (564, 18, 47, 45, 0), (896, 18, 50, 114, 0), (568, 18, 51, 46, 0), (900, 18, 55, 116, 0), (576, 18, 56, 47, 0), (908, 18, 59, 117, 0), (580, 18, 60, 48, 0), (912, 18, 64, 118, 0), (587, 18, 65, 49, 0), (809, 18, 68, 89, 0), (591, 18, 69, 50, 0), (813, 18, 72, 91, 0), (599, 18, 73, 51, 0), (828, 18, 76, 92, 0), (609, 18, 77, 52, 0), (833, 18, 80, 93, 0), (613, 18, 81, 53, 0), (837, 18, 84, 97, 0), (621, 18, 85, 54, 0), (841, 18, 88, 98, 0), (625, 18, 89, 55, 0), (916, 18, 92, 119, 0), (633, 18, 93, 56, 0), (920, 18, 96, 120, 0), (634, 18, 97, 57, 0), (924, 18, 100, 122, 0), (646, 18, 101, 58, 0), (932, 18, 104, 123, 0), (650, 18, 105, 59, 0), (936, 18, 108, 124, 0)]
theorem tM_x : tM = tMx.map (fun r => r.2) := by decide +kernel
def tC : List (Nat × Nat × Nat) := [(5, 9, 2), (5, 21, 11), (5, 28, 5), (5, 34, 7), (5, 65, 20), (6, 7, 3), (7, 9, 11), (8, 9, 6), (8, 15, 8), (8, 32, 1), (8, 85, 4), (8, 144, 5), (13, 7, 22), (14, 2, 22), (14, 110, 28), (18, 7, 9), (18, 10, 10)]
def tCx : List (Nat × Nat × Nat × Nat) := [(81, 5, 9, 2), (83, 5, 21, 11), (110, 5, 28, 5), (112, 5, 34, 7), (269, 5, 65, 20), (131, 6, 7, 3), (197, 7, 9, 11), (72, 8, 9, 6), (74, 8, 15, 8), (221, 8, 32, 1), (436, 8, 85, 4), (554, 8, 144, 5), (371, 13, 7, 22), (363, 14, 2, 22), (361, 14, 110, 28), (64, 18, 7, 9), (654, 18, 10, 10)]
theorem tC_x : tC = tCx.map (fun r => r.2) := by decide +kernel
def tK : List (Nat × Nat × Nat × Nat) := [(10, 265, 1431655765, 0), (10, 266, 858993459, 0), (10, 267, 252645135, 0), (16, 200, 2147483639, 0)]
def tKx : List (Nat × Nat × Nat × Nat × Nat) := [(606, 10, 265, 1431655765, 0), (607, 10, 266, 858993459, 0), (608, 10, 267, 252645135, 0), (336, 16, 200, 2147483639, 0)]
theorem tK_x : tK = tKx.map (fun r => r.2) := by decide +kernel
def tB : List (Nat × Nat × Nat) := [(0, 1, 1000), (1, 3, 1000), (1, 24, 1004), (2, 1, 1000), (3, 3, 1000), (4, 1, 1000), (5, 3, 1000), (5, 64, 1001), (5, 151, 1004), (6, 1, 1000), (7, 3, 1000), (8, 3, 1000), (9, 1, 1000), (11, 1, 1000), (13, 79, 1004), (13, 112, 1002), (14, 86, 1003), (14, 150, 1002), (14, 304, 1005), (16, 194, 1004)]
def tBx : List (Nat × Nat × Nat × Nat) := [(226, 0, 1, 1000), (118, 1, 3, 1000), (527, 1, 24, 1004), (136, 2, 1, 1000), (441, 3, 3, 1000), (274, 4, 1, 1000), (80, 5, 3, 1000), (263, 5, 64, 1001), (309, 5, 151, 1004), (130, 6, 1, 1000), (196, 7, 3, 1000), (69, 8, 3, 1000), (659, 9, 1, 1000), (94, 11, 1, 1000), (370, 13, 79, 1004), (410, 13, 112, 1002), (343, 14, 86, 1003), (367, 14, 150, 1002), (364, 14, 304, 1005), (335, 16, 194, 1004)]
theorem tB_x : tB = tBx.map (fun r => r.2) := by decide +kernel
def tYp : List (Nat × Nat × Nat × Nat) := [(225, 54, 224, 0), (117, 49, 116, 0), (401, 49, 399, 400), (526, 49, 524, 525), (135, 51, 134, 0), (440, 62, 439, 0), (559, 62, 558, 0), (273, 55, 272, 0), (418, 55, 416, 417), (397, 55, 395, 396), (79, 45, 78, 0), (254, 45, 252, 253), (262, 45, 260, 261), (598, 45, 596, 597), (258, 45, 256, 257), (522, 45, 520, 521), (535, 45, 534, 14), (539, 45, 538, 15), (543, 45, 542, 16), (547, 45, 546, 17), (308, 45, 307, 1), (315, 45, 314, 2), (375, 45, 374, 6), (414, 45, 413, 8), (435, 45, 434, 10), (531, 45, 530, 13), (129, 50, 128, 0), (641, 50, 639, 640), (620, 50, 618, 619), (501, 50, 499, 500), (422, 50, 420, 421), (431, 50, 429, 430), (426, 50, 425, 9), (195, 52, 194, 0), (473, 52, 471, 472), (469, 52, 467, 468), (68, 44, 67, 0), (214, 44, 212, 213), (479, 44, 477, 478), (486, 44, 484, 485), (490, 44, 488, 489), (494, 44, 492, 493), (505, 44, 503, 504), (509, 44, 507, 508), (563, 44, 561, 562), (567, 44, 565, 566), (571, 44, 569, 570), (579, 44, 577, 578), (583, 44, 581, 582), (590, 44, 588, 589), (594, 44, 592, 593), (602, 44, 600, 601), (612, 44, 610, 611), (616, 44, 614, 615), (624, 44, 622, 623), (628, 44, 626, 627), (632, 44, 630, 631), (637, 44, 635, 636), (649, 44, 647, 648), (653, 44, 651, 652), (217, 44, 216, 0), (220, 44, 219, 0), (482, 44, 481, 0), (497, 44, 496, 0), (516, 44, 515, 0), (586, 44, 585, 0), (513, 44, 512, 12), (465, 44, 464, 11), (250, 44, 249, 0), (575, 44, 574, 19), (551, 44, 550, 18), (658, 53, 657, 0), (743, 53, 742, 0), (740, 53, 739, 0), (746, 53, 745, 0), (757, 53, 756, 0), (827, 53, 826, 0), (824, 53, 823, 30), (800, 53, 799, 27), (796, 53, 795, 26), (754, 53, 753, 21), (750, 53, 749, 20), (737, 53, 735, 736), (772, 53, 771, 0), (769, 53, 767, 768), (776, 53, 774, 775), (780, 53, 778, 779), (784, 53, 782, 783), (808, 53, 806, 807), (812, 53, 810, 811), (820, 53, 819, 29), (816, 53, 814, 815), (831, 53, 829, 830), (836, 53, 834, 835), (804, 53, 803, 28), (792, 53, 791, 25), (788, 53, 787, 24), (840, 53, 838, 839), (844, 53, 842, 843), (855, 53, 854, 0), (852, 53, 851, 31), (765, 53, 764, 23), (761, 53, 760, 22), (863, 53, 862, 33), (859, 53, 858, 32), (891, 53, 890, 40), (887, 53, 886, 39), (879, 53, 878, 37), (875, 53, 874, 36), (871, 53, 870, 35), (867, 53, 866, 34), (883, 53, 882, 38), (848, 53, 846, 847), (895, 53, 893, 894), (899, 53, 897, 898), (907, 53, 906, 41), (903, 53, 901, 902), (911, 53, 909, 910), (915, 53, 913, 914), (919, 53, 917, 918), (923, 53, 921, 922), (931, 53, 930, 42), (927, 53, 925, 926), (935, 53, 933, 934), (939, 53, 937, 938), (605, 63, 604, 0), (93, 46, 92, 0), (90, 47, 89, 0), (87, 48, 86, 0), (331, 48, 330, 5), (327, 48, 326, 4), (379, 48, 377, 378), (645, 48, 643, 644), (393, 48, 391, 392), (383, 48, 381, 382), (323, 48, 322, 3), (319, 48, 317, 318), (405, 48, 403, 404), (409, 48, 408, 7), (342, 58, 341, 0), (360, 58, 359, 0), (386, 60, 385, 0), (334, 57, 333, 0), (339, 57, 338, 0), (389, 61, 388, 0), (0, 43, 0, 0)]
def MT : List MI := [M_X0_init, M_X1_init, M_X1_covers, M_X1_raiseTo, M_X2_init, M_X3_init, M_X3_init_, M_X4_init, M_X4_hasGreaterMarkThan, M_X4_isOfSameElementAs, M_X5_init, M_X5_hasMostOperations, M_X5_ownClock, M_X5_elementBits, M_X5_begin, M_X5_receive, M_X5_isWaiting, M_X5_finishWaiting, M_X5_firstReady, M_X5_isReady, M_X5_finish, M_X5_apply, M_X5_dropPutsBefore, M_X5_keepGreaterMark, M_X5_isDoneEverywhere, M_X5_shortenLog, M_X6_init, M_X6_lettersEver, M_X6_lettersThere, M_X6_letterAt, M_X6_bringIn, M_X6_bringOut, M_X6_letterOf, M_X7_init, M_X7_isFull, M_X7_send, M_X8_init, M_X8_add, M_X8_put, M_X8_take, M_X8_write, M_X8_insert, M_X8_remove, M_X8_deliver, M_X8_copy, M_X8_lose, M_X8_ask, M_X8_tell, M_X8_power, M_X8_counter, M_X8_has, M_X8_size, M_X8_register, M_X8_length, M_X8_character, M_X8_clock, M_X8_knows, M_X8_count, M_X8_message, M_X8_way, M_X8_isReplica, M_X8_isOfPair, M_X8_isElement, M_X8_isCharacter, M_X8_isWay, M_X8_oneIf, M_X8_isOnWay, M_X8_wayBetween, M_X8_operate, M_X8_sendClock, M_X8_answer, M_X9_init, M_X9_in, M_X9_isReplica, M_X9_isTwo, M_X9_ownerOf, M_X9_numberOf, M_X9_isBefore, M_X9_hasGreaterMark, M_X9_was, M_X9_doOperation, M_X9_newOperation, M_X9_add, M_X9_isElement, M_X9_put, M_X9_take, M_X9_write, M_X9_insert, M_X9_remove, M_X9_counter, M_X9_isTaken, M_X9_has, M_X9_size, M_X9_register, M_X9_isRemoved, M_X9_pileUp, M_X9_lay, M_X9_length, M_X9_character, M_X9_isWay, M_X9_isMessage, M_X9_send, M_X9_sendOperation, M_X9_moveMessage, M_X9_drop, M_X9_knowsOf, M_X9_isLogged, M_X9_isReady, M_X9_firstReady, M_X9_isWaiting, M_X9_take_, M_X9_answer, M_X9_deliver, M_X9_copy, M_X9_lose, M_X9_speak, M_X9_ask, M_X9_tell, M_X9_power, M_X9_clock, M_X9_knows, M_X9_charactersOf, M_X9_count, M_X9_message, M_X9_way, M_J6_bitCount_0f7a4, M_Jxa1e45_init_da8c8, M_Jxc12de_init_da8c8, M_AL_init_da8c8, M_AL_grow_92f84, M_AL_grow_d5877, M_AL_size_8abf5, M_AL_isEmpty_aae02, M_AL_elementData_915e3, M_AL_get_915e3, M_AL_add_72be8, M_AL_add_9ea2d, M_AL_remove_915e3, M_AL_fastRemove_b59b0, M_J7_copyOf_1904c, M_J7_copyOf_6403c, M_J15_checkIndex_7cf53, M_J8_newLength_cabcc, M_J8_hugeLength_7cf53, M_J3_checkIndex_8e157, M_L_law]
end
section
/-- the words that go from method to method as they are -/
def bw : List Cond := lw_tbl.filter goodWord
theorem bw_in {w : Cond} (h : w ∈ bw) : w ∈ lw_tbl := (List.mem_filter.mp h).1
def wat (p : Nat) (w : Cond) : Bool := decide (lw_tbl[p]? = some w) && goodWord w
theorem wat_in {p : Nat} {w : Cond} (h : wat p w = true) : w ∈ bw := by
  unfold wat at h
  rw [Bool.and_eq_true, decide_eq_true_eq] at h
  exact List.mem_filter.mpr ⟨List.mem_of_getElem? h.1, h.2⟩
def sat (p : Nat) (w : Cond) : Bool := decide (lw_tbl[p]? = some w)
theorem sat_in {p : Nat} {w : Cond} (h : sat p w = true) : w ∈ lw_tbl := by
  unfold sat at h
  rw [decide_eq_true_eq] at h
  exact List.mem_of_getElem? h
/-- the classes of the world; kind k is the class number k - 1 -/
def wc : List vw_C := [(RX0, TX0, 4), (RX1, TX1, 1), (RX2, TX2, 3), (RX3, TX3, 4), (RX4, TX4, 5), (RX5, TX5, 10), (RX6, TX6, 1), (RX7, TX7, 1), (RX8, TX8, 2), (RX9, TX9, 24), (RJx4a65c, TJx4a65c, 3)]
def wcT : List (Nat → FieldType) := [tyX0, tyX1, tyX2, tyX3, tyX4, tyX5, tyX6, tyX7, tyX8, tyX9, tyJx4a65c]
def wty (c k : Nat) : FieldType := ((wcT[c]?).getD tyX0) k
def cty (c k : Nat) : Nat := match wty c k with
  | .int => 0
  | .boolean => 2
  | .object _ => 1
  | .array _ => 1
  | _ => 3
/-- a class's name by its code -/
def kn (k : Nat) : String := match k with
  | 20 => "[I"
  | 22 => "java/lang/Object"
  | 28 => "[Ljava/lang/Object;"
  | k => ((wc[k - 1]?).map (fun q => q.1)).getD ""
/-- the name of what an array of kind k holds -/
def anm (k : Nat) : String := match k with
  | 22 => "java/lang/Object"
  | k => kn (sm_elt k)
def owN (m : MI) : String := (ow[mW m]?).getD ""
def own (o : Nat) : String := (ow[o]?).getD ""
def wok (c : Nat) (q : vw_C) : Bool := (u_ws q.1 q.2.1 q.2.2).all (fun w => decide (w ∈ bw)) && (List.range q.2.2).all (fun k => decide (parseFieldDescriptor (q.2.1 k).2.2.1 = some (wty c k)) && Nat.blt (cty c k) 3 && Nat.blt k 32) && (List.range q.2.2).all (fun a => (List.range q.2.2).all (fun b => Nat.beq a b || decide ((q.2.1 a).2.1 ≠ (q.2.1 b).2.1))) && decide (Cond.instantiable q.1 q.2.2 ∈ bw) && decide (Cond.initialized q.1 ∈ bw)
theorem wok_all : (List.range 11).all (fun c => match wc[c]? with
  | some q => wok c q
  | none => false) = true := by decide +kernel
def okF (r : Nat × Nat × Nat × Nat × Nat) : Bool := match wc[r.2.2.2.1 - 1]? with
  | some q => Nat.ble 1 r.2.2.2.1 && Nat.ble (32 * (r.2.2.2.1 - 1)) r.2.2.2.2 && Nat.blt (r.2.2.2.2 - 32 * (r.2.2.2.1 - 1)) q.2.2 && (wat r.1 (Cond.fieldLink (own r.2.1) r.2.2.1 (q.2.1 (r.2.2.2.2 - 32 * (r.2.2.2.1 - 1))).1 (q.2.1 (r.2.2.2.2 - 32 * (r.2.2.2.1 - 1))).2.1 (q.2.1 (r.2.2.2.2 - 32 * (r.2.2.2.1 - 1))).2.2.1) || (wat r.1 (Cond.fieldLink (own r.2.1) r.2.2.1 "java/util/ArrayList" (q.2.1 (r.2.2.2.2 - 32 * (r.2.2.2.1 - 1))).2.1 (q.2.1 (r.2.2.2.2 - 32 * (r.2.2.2.1 - 1))).2.2.1) && wat 101 (Cond.sameField "java/util/ArrayList" (q.2.1 (r.2.2.2.2 - 32 * (r.2.2.2.1 - 1))).1 (q.2.1 (r.2.2.2.2 - 32 * (r.2.2.2.1 - 1))).2.1 (q.2.1 (r.2.2.2.2 - 32 * (r.2.2.2.1 - 1))).2.2.1)))
  | none => false
set_option maxRecDepth 100000 in
theorem tF_ok : tFx.all okF = true := by decide +kernel
def okM (r : Nat × Nat × Nat × Nat × Nat) : Bool := match MT[r.2.2.2.1]? with
  | some m => (match r.2.2.2.2 with
    | 0 => wat r.1 (Cond.methodLink (own r.2.1) r.2.2.1 (mY m))
    | _ => sat r.1 (Cond.methodLinkNest (own r.2.1) r.2.2.1 (mY m) "ReplicaStore"))
  | none => false
set_option maxRecDepth 100000 in
theorem tM_ok : tMx.all okM = true := by decide +kernel
set_option maxRecDepth 100000 in
theorem tC_ok : tCx.all (fun r => wat r.1 (Cond.classLink (own r.2.1) r.2.2.1 (kn r.2.2.2))) = true := by decide +kernel
set_option maxRecDepth 100000 in
theorem tK_ok : tKx.all (fun r => wat r.1 (Cond.constant (own r.2.1) r.2.2.1 (sm_lit r.2.2.2.1 r.2.2.2.2))) = true := by decide +kernel
def yClone : MethodName := ⟨"java/lang/Object", "clone", "()Ljava/lang/Object;"⟩
def yCloneI : MethodName := ⟨"[I", "clone", "()Ljava/lang/Object;"⟩
def yGetC : MethodName := ⟨"java/lang/Object", "getClass", "()Ljava/lang/Class;"⟩
def bN (c : Nat) : MethodName := match c with
  | 1000 => objectInit
  | 1001 => yCloneI
  | 1002 => arraycopyName
  | 1003 => yGetC
  | 1004 => Lib.Math.max.name
  | _ => Lib.Math.min.name
set_option maxRecDepth 100000 in
theorem tB_ok : tBx.all (fun r => wat r.1 (Cond.methodLink (own r.2.1) r.2.2.1 (bN r.2.2.2))) = true := by decide +kernel
theorem w_oi : Cond.instanceMethod objectInit ∈ bw := wat_in (p := 70) (by decide +kernel)
theorem w_oc : Cond.code objectInit ⟨#[0xb1]⟩ 1 none ∈ bw := wat_in (p := 71) (by decide +kernel)
theorem w_sC : Cond.sameMethod "[I" "java/lang/Object" "clone" "()Ljava/lang/Object;" ∈ bw := wat_in (p := 264) (by decide +kernel)
theorem w_nC : Cond.native yClone ∈ bw := wat_in (p := 265) (by decide +kernel)
theorem w_iC : Cond.instanceMethod yClone ∈ bw := wat_in (p := 266) (by decide +kernel)
theorem w_lC : Cond.selects "[I" yCloneI yClone ∈ bw := wat_in (p := 267) (by decide +kernel)
theorem w_cC : Cond.castable "[I" "java/lang/Cloneable" ∈ lw_tbl := sat_in (p := 268) (by decide +kernel)
theorem w_dG : Cond.declares yGetC ∈ lw_tbl := sat_in (p := 944) (by decide +kernel)
theorem w_nG : Cond.native yGetC ∈ bw := wat_in (p := 357) (by decide +kernel)
theorem w_iG : Cond.instanceMethod yGetC ∈ bw := wat_in (p := 344) (by decide +kernel)
theorem w_lG : Cond.selects "[Ljava/lang/Object;" yGetC yGetC ∈ bw := wat_in (p := 943) (by decide +kernel)
theorem w_nA : Cond.native arraycopyName ∈ bw := wat_in (p := 369) (by decide +kernel)
theorem w_sA : Cond.static arraycopyName ∈ bw := wat_in (p := 368) (by decide +kernel)
theorem w_iS : Cond.initialized "java/lang/System" ∈ bw := wat_in (p := 59) (by decide +kernel)
theorem w_iMa : Cond.initialized "java/lang/Math" ∈ bw := wat_in (p := 56) (by decide +kernel)
theorem w_sMx : Cond.static Lib.Math.max.name ∈ bw := wat_in (p := 310) (by decide +kernel)
theorem w_cMx : Cond.code Lib.Math.max.name Lib.Math.max.code 2 (some .int) ∈ bw := wat_in (p := 311) (by decide +kernel)
theorem w_sMn : Cond.static Lib.Math.min.name ∈ bw := wat_in (p := 365) (by decide +kernel)
theorem w_cMn : Cond.code Lib.Math.min.name Lib.Math.min.code 2 (some .int) ∈ bw := wat_in (p := 366) (by decide +kernel)
theorem w_aI : Cond.arrayClass .int ∈ bw := wat_in (p := 109) (by decide +kernel)
theorem w_aZ : Cond.arrayClass .boolean ∈ bw := wat_in (p := 733) (by decide +kernel)
theorem w_lS : Cond.laysStatic "java/util/ArrayList" "DEFAULTCAPACITY_EMPTY_ELEMENTDATA" "[Ljava/lang/Object;" ∈ lw_tbl := sat_in (p := 96) (by decide +kernel)
theorem w_gS : Cond.fieldLink "java/util/ArrayList" 39 "java/util/ArrayList" "DEFAULTCAPACITY_EMPTY_ELEMENTDATA" "[Ljava/lang/Object;" ∈ bw := by decide +kernel
theorem ao_ok : ([(362, 22), (73, 23), (75, 24), (82, 25), (111, 26), (113, 27)] : List (Nat × Nat)).all (fun k => sat k.1 (Cond.arrayOver (.object (anm k.2)))) = true := by decide +kernel
def okY (m : MI) (p : Nat × Nat × Nat × Nat) : Bool := wat p.1 (Cond.code (mY m) (mC m) (mL m) (mR m)) && wat p.2.1 (Cond.initialized (mY m).cls) && decide ((mY m).cls = owN m) && decide ((mY m).cls ≠ "java/lang/invoke/MethodHandle") && decide ((mY m).cls ≠ "java/lang/invoke/VarHandle") && plainName (mY m).cls && Nat.ble (mN m) (mL m) && Nat.ble (mL m) 20 && (match mK m with
  | 0 => decide ((parseMethodDescriptor (mY m).desc).map (fun d => d.parameters.length) = some (mN m)) && wat p.2.2.1 (Cond.static (mY m))
  | 1 => decide ((parseMethodDescriptor (mY m).desc).map (fun d => d.parameters.length + 1) = some (mN m)) && wat p.2.2.1 (Cond.instanceMethod (mY m)) && decide ((mY m).name = "<init>") && decide (mR m = none)
  | k + 2 => decide ((parseMethodDescriptor (mY m).desc).map (fun d => d.parameters.length + 1) = some (mN m)) && wat p.2.2.1 (Cond.instanceMethod (mY m)) && wat p.2.2.2 (Cond.selects (mY m).cls (mY m) (mY m)) && decide ((wc[k]?).map (fun q => q.1) = some (mY m).cls))
def okYs (lo n : Nat) : Bool := (List.range n).all (fun i => match MT[lo + i]?, tYp[lo + i]? with
  | some m, some p => okY m p
  | _, _ => false)
set_option maxRecDepth 100000 in
theorem MT_ok1 : okYs 0 40 = true := by decide +kernel
set_option maxRecDepth 100000 in
theorem MT_ok2 : okYs 40 40 = true := by decide +kernel
set_option maxRecDepth 100000 in
theorem MT_ok3 : okYs 80 40 = true := by decide +kernel
set_option maxRecDepth 100000 in
theorem MT_ok4 : okYs 120 25 = true := by decide +kernel
/-- a final field is put in its class's constructor -/
def ckP (m : MI) (kf fid : Nat) : Bool := match wc[kf - 1]? with
  | some q => (match (q.2.1 (fid - 32 * (kf - 1))).2.2.2 with
    | true => Nat.beq (mK m) 1 && decide ((q.2.1 (fid - 32 * (kf - 1))).1 = owN m)
    | false => true)
  | none => false
def ckC (m m' : MI) : Bool := Nat.ble (mF m' + 1) (mF m) && Nat.ble (8 + (mL m' + 11) + mO m') (mO m)
def ckI (m : MI) (e : Ent) : Bool := match e.2.1 with
  | .iconst n => Nat.beq e.2.2.1 1 && decide (Int32.ofInt n = sm_lit e.2.2.2.1 e.2.2.2.2.1)
  | .bipush n => Nat.beq e.2.2.1 2 && decide ((Int8.ofInt n).toInt32 = sm_lit e.2.2.2.1 e.2.2.2.2.1)
  | .sipush n => Nat.beq e.2.2.1 3 && decide ((Int16.ofInt n).toInt32 = sm_lit e.2.2.2.1 e.2.2.2.2.1)
  | .ldc i => Nat.beq e.2.2.1 2 && (match e.2.2.2.2.2 with
    | 0 => decide ((mW m, i, e.2.2.2.1, e.2.2.2.2.1) ∈ tK)
    | 1 => decide ((mW m, i, 28) ∈ tC)
    | _ => false)
  | .ldc_w i => Nat.beq e.2.2.1 3 && decide ((mW m, i, e.2.2.2.1, e.2.2.2.2.1) ∈ tK)
  | .aconst_null => Nat.beq e.2.2.1 1
  | .iload_n _ => Nat.beq e.2.2.1 1
  | .aload_n _ => Nat.beq e.2.2.1 1
  | .istore_n _ => Nat.beq e.2.2.1 1
  | .astore_n _ => Nat.beq e.2.2.1 1
  | .iload _ => Nat.beq e.2.2.1 2
  | .aload _ => Nat.beq e.2.2.1 2
  | .istore _ => Nat.beq e.2.2.1 2
  | .astore _ => Nat.beq e.2.2.1 2
  | .iinc _ n => Nat.beq e.2.2.1 3 && decide (Int32.ofInt n = sm_lit e.2.2.2.1 e.2.2.2.2.1)
  | .iadd => Nat.beq e.2.2.1 1
  | .isub => Nat.beq e.2.2.1 1
  | .imul => Nat.beq e.2.2.1 1
  | .iand => Nat.beq e.2.2.1 1
  | .ior => Nat.beq e.2.2.1 1
  | .ishl => Nat.beq e.2.2.1 1
  | .ishr => Nat.beq e.2.2.1 1
  | .iushr => Nat.beq e.2.2.1 1
  | .idiv => Nat.beq e.2.2.1 1
  | .irem => Nat.beq e.2.2.1 1
  | .dup => Nat.beq e.2.2.1 1
  | .dup_x1 => Nat.beq e.2.2.1 1
  | .dup2 => Nat.beq e.2.2.1 1
  | .pop => Nat.beq e.2.2.1 1
  | .ifCond _ o => Nat.beq e.2.2.1 3 && decide ((e.1 : Int) + o = (e.2.2.2.1 : Int))
  | .if_icmp _ o => Nat.beq e.2.2.1 3 && decide ((e.1 : Int) + o = (e.2.2.2.1 : Int))
  | .if_acmp _ o => Nat.beq e.2.2.1 3 && decide ((e.1 : Int) + o = (e.2.2.2.1 : Int))
  | .ifnull o => Nat.beq e.2.2.1 3 && decide ((e.1 : Int) + o = (e.2.2.2.1 : Int))
  | .ifnonnull o => Nat.beq e.2.2.1 3 && decide ((e.1 : Int) + o = (e.2.2.2.1 : Int))
  | .goto o => Nat.beq e.2.2.1 3 && decide ((e.1 : Int) + o = (e.2.2.2.1 : Int))
  | .tableswitch d _ _ offs => decide (0 ≤ (e.1 : Int) + d) && offs.toList.all (fun o => decide (0 ≤ (e.1 : Int) + o))
  | .getfield i => Nat.beq e.2.2.1 3 && decide ((mW m, i, e.2.2.2.1, e.2.2.2.2.1) ∈ tF) && Nat.beq e.2.2.2.2.2 (cty (e.2.2.2.1 - 1) (e.2.2.2.2.1 - 32 * (e.2.2.2.1 - 1)))
  | .putfield i => Nat.beq e.2.2.1 3 && decide ((mW m, i, e.2.2.2.1, e.2.2.2.2.1) ∈ tF) && Nat.beq e.2.2.2.2.2 (cty (e.2.2.2.1 - 1) (e.2.2.2.2.1 - 32 * (e.2.2.2.1 - 1))) && ckP m e.2.2.2.1 e.2.2.2.2.1
  | .getstatic i => Nat.beq e.2.2.1 3 && Nat.beq i 39 && decide (owN m = "java/util/ArrayList")
  | .new i => Nat.beq e.2.2.1 3 && (match wc[e.2.2.2.1 - 1]? with
    | some q => Nat.ble 1 e.2.2.2.1 && Nat.beq q.2.2 e.2.2.2.2.1 && decide ((mW m, i, e.2.2.2.1) ∈ tC)
    | none => false)
  | .newarray t => Nat.beq e.2.2.1 2 && (match t with
    | .int => Nat.beq e.2.2.2.1 20
    | .boolean => Nat.beq e.2.2.2.1 21
    | _ => false)
  | .anewarray i => Nat.beq e.2.2.1 3 && Nat.ble 22 e.2.2.2.1 && Nat.ble e.2.2.2.1 27 && (match e.2.2.2.1 with
    | 22 => decide ((mW m, i, 22) ∈ tC)
    | k => decide ((mW m, i, sm_elt k) ∈ tC))
  | .arraylength => Nat.beq e.2.2.1 1
  | .iaload => Nat.beq e.2.2.1 1
  | .baload => Nat.beq e.2.2.1 1
  | .aaload => Nat.beq e.2.2.1 1
  | .iastore => Nat.beq e.2.2.1 1
  | .bastore => Nat.beq e.2.2.1 1
  | .aastore => Nat.beq e.2.2.1 1
  | .checkcast i => Nat.beq e.2.2.1 3 && (match e.2.2.2.1 with
    | 20 => decide ((mW m, i, 20) ∈ tC)
    | 0 => false
    | k + 1 => Nat.blt k 11 && decide ((mW m, i, k + 1) ∈ tC))
  | .invokespecial i => Nat.beq e.2.2.1 3 && (if e.2.2.2.1 < 1000 then (match MT[e.2.2.2.1]? with
    | some m' => (match e.2.2.2.2.2 with
      | 1 => decide ((mW m, i, e.2.2.2.1, 0) ∈ tM)
      | 3 => decide ((mW m, i, e.2.2.2.1, 1) ∈ tM)
      | _ => false) && Nat.beq (mK m') 1 && ckC m m'
    | none => false) else Nat.beq e.2.2.2.1 1000 && decide ((mW m, i, 1000) ∈ tB) && Nat.ble 1 (mF m) && Nat.ble 20 (mO m))
  | .invokevirtual i => Nat.beq e.2.2.1 3 && (if e.2.2.2.1 < 1000 then (match MT[e.2.2.2.1]? with
    | some m' => decide ((mW m, i, e.2.2.2.1, 0) ∈ tM) && Nat.ble 2 (mK m') && ckC m m'
    | none => false) else (match e.2.2.2.1 with
      | 1001 => decide ((mW m, i, 1001) ∈ tB) && Nat.ble 1 (mF m) && Nat.ble 22 (mO m)
      | 1003 => decide ((mW m, i, 1003) ∈ tB) && Nat.ble 1 (mF m) && Nat.ble 22 (mO m)
      | _ => false))
  | .invokestatic i => Nat.beq e.2.2.1 3 && (if e.2.2.2.1 < 1000 then (match MT[e.2.2.2.1]? with
    | some m' => decide ((mW m, i, e.2.2.2.1, 0) ∈ tM) && Nat.beq (mK m') 0 && ckC m m'
    | none => false) else (match e.2.2.2.1 with
      | 1002 => decide ((mW m, i, 1002) ∈ tB) && Nat.ble 1 (mF m) && Nat.ble (8 + (nativeFrameWords "java/lang/System" "arraycopy" 5 + 11)) (mO m)
      | 1004 => decide ((mW m, i, 1004) ∈ tB) && Nat.ble 1 (mF m) && Nat.ble 21 (mO m)
      | 1005 => decide ((mW m, i, 1005) ∈ tB) && Nat.ble 1 (mF m) && Nat.ble 21 (mO m)
      | _ => false))
  | .ireturn => Nat.beq e.2.2.1 1
  | .areturn => Nat.beq e.2.2.1 1
  | .return_ => Nat.beq e.2.2.1 1
  | _ => false
def ckE (m : MI) (e : Ent) : Bool := decide (decode (mC m) e.1 = .ok (e.2.1, e.2.2.1)) && (Nat.beq e.2.2.2.2.2 9 || ckI m e)
def ckN : List Ent → Bool
  | e :: e' :: r => Nat.beq e'.1 (e.1 + e.2.2.1) && ckN (e' :: r)
  | _ => true
def ckM (m : MI) : Bool := (mP m).all (ckE m) && ckN (mP m) && (match mP m with
  | e :: _ => Nat.beq e.1 0
  | [] => false)
end
section
set_option maxRecDepth 100000 in
theorem ck_X0_init : ckM M_X0_init = true := by decide +kernel
set_option maxRecDepth 100000 in
theorem ck_X2_init : ckM M_X2_init = true := by decide +kernel
set_option maxRecDepth 100000 in
theorem ck_X4_hasGreaterMarkThan : ckM M_X4_hasGreaterMarkThan = true := by decide +kernel
set_option maxRecDepth 100000 in
theorem ck_X5_ownClock : ckM M_X5_ownClock = true := by decide +kernel
set_option maxRecDepth 100000 in
theorem ck_X5_isWaiting : ckM M_X5_isWaiting = true := by decide +kernel
set_option maxRecDepth 100000 in
theorem ck_X5_finish : ckM M_X5_finish = true := by decide +kernel
set_option maxRecDepth 100000 in
theorem ck_X5_isDoneEverywhere : ckM M_X5_isDoneEverywhere = true := by decide +kernel
set_option maxRecDepth 100000 in
theorem ck_X6_lettersThere : ckM M_X6_lettersThere = true := by decide +kernel
set_option maxRecDepth 100000 in
theorem ck_X6_letterOf : ckM M_X6_letterOf = true := by decide +kernel
set_option maxRecDepth 100000 in
theorem ck_X8_init : ckM M_X8_init = true := by decide +kernel
set_option maxRecDepth 100000 in
theorem ck_X8_write : ckM M_X8_write = true := by decide +kernel
set_option maxRecDepth 100000 in
theorem ck_X8_copy : ckM M_X8_copy = true := by decide +kernel
set_option maxRecDepth 100000 in
theorem ck_X8_power : ckM M_X8_power = true := by decide +kernel
set_option maxRecDepth 100000 in
theorem ck_X8_register : ckM M_X8_register = true := by decide +kernel
set_option maxRecDepth 100000 in
theorem ck_X8_knows : ckM M_X8_knows = true := by decide +kernel
set_option maxRecDepth 100000 in
theorem ck_X8_isReplica : ckM M_X8_isReplica = true := by decide +kernel
set_option maxRecDepth 100000 in
theorem ck_X8_isWay : ckM M_X8_isWay = true := by decide +kernel
set_option maxRecDepth 100000 in
theorem ck_X8_operate : ckM M_X8_operate = true := by decide +kernel
set_option maxRecDepth 100000 in
theorem ck_X9_in : ckM M_X9_in = true := by decide +kernel
set_option maxRecDepth 100000 in
theorem ck_X9_numberOf : ckM M_X9_numberOf = true := by decide +kernel
set_option maxRecDepth 100000 in
theorem ck_X9_doOperation : ckM M_X9_doOperation = true := by decide +kernel
set_option maxRecDepth 100000 in
theorem ck_X9_put : ckM M_X9_put = true := by decide +kernel
set_option maxRecDepth 100000 in
theorem ck_X9_remove : ckM M_X9_remove = true := by decide +kernel
set_option maxRecDepth 100000 in
theorem ck_X9_size : ckM M_X9_size = true := by decide +kernel
set_option maxRecDepth 100000 in
theorem ck_X9_lay : ckM M_X9_lay = true := by decide +kernel
set_option maxRecDepth 100000 in
theorem ck_X9_isMessage : ckM M_X9_isMessage = true := by decide +kernel
set_option maxRecDepth 100000 in
theorem ck_X9_drop : ckM M_X9_drop = true := by decide +kernel
set_option maxRecDepth 100000 in
theorem ck_X9_firstReady : ckM M_X9_firstReady = true := by decide +kernel
set_option maxRecDepth 100000 in
theorem ck_X9_deliver : ckM M_X9_deliver = true := by decide +kernel
set_option maxRecDepth 100000 in
theorem ck_X9_ask : ckM M_X9_ask = true := by decide +kernel
set_option maxRecDepth 100000 in
theorem ck_X9_knows : ckM M_X9_knows = true := by decide +kernel
set_option maxRecDepth 100000 in
theorem ck_X9_way : ckM M_X9_way = true := by decide +kernel
set_option maxRecDepth 100000 in
theorem ck_AL_init_da8c8 : ckM M_AL_init_da8c8 = true := by decide +kernel
set_option maxRecDepth 100000 in
theorem ck_AL_isEmpty_aae02 : ckM M_AL_isEmpty_aae02 = true := by decide +kernel
set_option maxRecDepth 100000 in
theorem ck_AL_add_9ea2d : ckM M_AL_add_9ea2d = true := by decide +kernel
set_option maxRecDepth 100000 in
theorem ck_J7_copyOf_6403c : ckM M_J7_copyOf_6403c = true := by decide +kernel
set_option maxRecDepth 100000 in
theorem ck_J3_checkIndex_8e157 : ckM M_J3_checkIndex_8e157 = true := by decide +kernel
end
section
set_option maxRecDepth 100000 in
theorem ck_X1_init : ckM M_X1_init = true := by decide +kernel
set_option maxRecDepth 100000 in
theorem ck_X3_init : ckM M_X3_init = true := by decide +kernel
set_option maxRecDepth 100000 in
theorem ck_X4_isOfSameElementAs : ckM M_X4_isOfSameElementAs = true := by decide +kernel
set_option maxRecDepth 100000 in
theorem ck_X5_elementBits : ckM M_X5_elementBits = true := by decide +kernel
set_option maxRecDepth 100000 in
theorem ck_X5_finishWaiting : ckM M_X5_finishWaiting = true := by decide +kernel
set_option maxRecDepth 100000 in
theorem ck_X5_apply : ckM M_X5_apply = true := by decide +kernel
set_option maxRecDepth 100000 in
theorem ck_X5_shortenLog : ckM M_X5_shortenLog = true := by decide +kernel
set_option maxRecDepth 100000 in
theorem ck_X6_letterAt : ckM M_X6_letterAt = true := by decide +kernel
set_option maxRecDepth 100000 in
theorem ck_X7_init : ckM M_X7_init = true := by decide +kernel
set_option maxRecDepth 100000 in
theorem ck_X8_add : ckM M_X8_add = true := by decide +kernel
set_option maxRecDepth 100000 in
theorem ck_X8_insert : ckM M_X8_insert = true := by decide +kernel
set_option maxRecDepth 100000 in
theorem ck_X8_lose : ckM M_X8_lose = true := by decide +kernel
set_option maxRecDepth 100000 in
theorem ck_X8_counter : ckM M_X8_counter = true := by decide +kernel
set_option maxRecDepth 100000 in
theorem ck_X8_length : ckM M_X8_length = true := by decide +kernel
set_option maxRecDepth 100000 in
theorem ck_X8_count : ckM M_X8_count = true := by decide +kernel
set_option maxRecDepth 100000 in
theorem ck_X8_isOfPair : ckM M_X8_isOfPair = true := by decide +kernel
set_option maxRecDepth 100000 in
theorem ck_X8_oneIf : ckM M_X8_oneIf = true := by decide +kernel
set_option maxRecDepth 100000 in
theorem ck_X8_sendClock : ckM M_X8_sendClock = true := by decide +kernel
set_option maxRecDepth 100000 in
theorem ck_X9_isReplica : ckM M_X9_isReplica = true := by decide +kernel
set_option maxRecDepth 100000 in
theorem ck_X9_isBefore : ckM M_X9_isBefore = true := by decide +kernel
set_option maxRecDepth 100000 in
theorem ck_X9_newOperation : ckM M_X9_newOperation = true := by decide +kernel
set_option maxRecDepth 100000 in
theorem ck_X9_take : ckM M_X9_take = true := by decide +kernel
set_option maxRecDepth 100000 in
theorem ck_X9_counter : ckM M_X9_counter = true := by decide +kernel
set_option maxRecDepth 100000 in
theorem ck_X9_register : ckM M_X9_register = true := by decide +kernel
set_option maxRecDepth 100000 in
theorem ck_X9_length : ckM M_X9_length = true := by decide +kernel
set_option maxRecDepth 100000 in
theorem ck_X9_send : ckM M_X9_send = true := by decide +kernel
set_option maxRecDepth 100000 in
theorem ck_X9_knowsOf : ckM M_X9_knowsOf = true := by decide +kernel
set_option maxRecDepth 100000 in
theorem ck_X9_isWaiting : ckM M_X9_isWaiting = true := by decide +kernel
set_option maxRecDepth 100000 in
theorem ck_X9_copy : ckM M_X9_copy = true := by decide +kernel
set_option maxRecDepth 100000 in
theorem ck_X9_tell : ckM M_X9_tell = true := by decide +kernel
set_option maxRecDepth 100000 in
theorem ck_X9_charactersOf : ckM M_X9_charactersOf = true := by decide +kernel
set_option maxRecDepth 100000 in
theorem ck_J6_bitCount_0f7a4 : ckM M_J6_bitCount_0f7a4 = true := by decide +kernel
set_option maxRecDepth 100000 in
theorem ck_AL_grow_92f84 : ckM M_AL_grow_92f84 = true := by decide +kernel
set_option maxRecDepth 100000 in
theorem ck_AL_elementData_915e3 : ckM M_AL_elementData_915e3 = true := by decide +kernel
set_option maxRecDepth 100000 in
theorem ck_AL_remove_915e3 : ckM M_AL_remove_915e3 = true := by decide +kernel
set_option maxRecDepth 100000 in
theorem ck_J15_checkIndex_7cf53 : ckM M_J15_checkIndex_7cf53 = true := by decide +kernel
end
section
set_option maxRecDepth 100000 in
theorem ck_X1_covers : ckM M_X1_covers = true := by decide +kernel
set_option maxRecDepth 100000 in
theorem ck_X3_init_ : ckM M_X3_init_ = true := by decide +kernel
set_option maxRecDepth 100000 in
theorem ck_X5_init : ckM M_X5_init = true := by decide +kernel
set_option maxRecDepth 100000 in
theorem ck_X5_begin : ckM M_X5_begin = true := by decide +kernel
set_option maxRecDepth 100000 in
theorem ck_X5_firstReady : ckM M_X5_firstReady = true := by decide +kernel
set_option maxRecDepth 100000 in
theorem ck_X5_dropPutsBefore : ckM M_X5_dropPutsBefore = true := by decide +kernel
set_option maxRecDepth 100000 in
theorem ck_X6_init : ckM M_X6_init = true := by decide +kernel
set_option maxRecDepth 100000 in
theorem ck_X6_bringIn : ckM M_X6_bringIn = true := by decide +kernel
set_option maxRecDepth 100000 in
theorem ck_X7_isFull : ckM M_X7_isFull = true := by decide +kernel
set_option maxRecDepth 100000 in
theorem ck_X8_put : ckM M_X8_put = true := by decide +kernel
set_option maxRecDepth 100000 in
theorem ck_X8_remove : ckM M_X8_remove = true := by decide +kernel
set_option maxRecDepth 100000 in
theorem ck_X8_ask : ckM M_X8_ask = true := by decide +kernel
set_option maxRecDepth 100000 in
theorem ck_X8_has : ckM M_X8_has = true := by decide +kernel
set_option maxRecDepth 100000 in
theorem ck_X8_character : ckM M_X8_character = true := by decide +kernel
set_option maxRecDepth 100000 in
theorem ck_X8_message : ckM M_X8_message = true := by decide +kernel
set_option maxRecDepth 100000 in
theorem ck_X8_isElement : ckM M_X8_isElement = true := by decide +kernel
set_option maxRecDepth 100000 in
theorem ck_X8_isOnWay : ckM M_X8_isOnWay = true := by decide +kernel
set_option maxRecDepth 100000 in
theorem ck_X8_answer : ckM M_X8_answer = true := by decide +kernel
set_option maxRecDepth 100000 in
theorem ck_X9_isTwo : ckM M_X9_isTwo = true := by decide +kernel
set_option maxRecDepth 100000 in
theorem ck_X9_hasGreaterMark : ckM M_X9_hasGreaterMark = true := by decide +kernel
set_option maxRecDepth 100000 in
theorem ck_X9_add : ckM M_X9_add = true := by decide +kernel
set_option maxRecDepth 100000 in
theorem ck_X9_write : ckM M_X9_write = true := by decide +kernel
set_option maxRecDepth 100000 in
theorem ck_X9_isTaken : ckM M_X9_isTaken = true := by decide +kernel
set_option maxRecDepth 100000 in
theorem ck_X9_isRemoved : ckM M_X9_isRemoved = true := by decide +kernel
set_option maxRecDepth 100000 in
theorem ck_X9_character : ckM M_X9_character = true := by decide +kernel
set_option maxRecDepth 100000 in
theorem ck_X9_sendOperation : ckM M_X9_sendOperation = true := by decide +kernel
set_option maxRecDepth 100000 in
theorem ck_X9_isLogged : ckM M_X9_isLogged = true := by decide +kernel
set_option maxRecDepth 100000 in
theorem ck_X9_take_ : ckM M_X9_take_ = true := by decide +kernel
set_option maxRecDepth 100000 in
theorem ck_X9_lose : ckM M_X9_lose = true := by decide +kernel
set_option maxRecDepth 100000 in
theorem ck_X9_power : ckM M_X9_power = true := by decide +kernel
set_option maxRecDepth 100000 in
theorem ck_X9_count : ckM M_X9_count = true := by decide +kernel
set_option maxRecDepth 100000 in
theorem ck_Jxa1e45_init_da8c8 : ckM M_Jxa1e45_init_da8c8 = true := by decide +kernel
set_option maxRecDepth 100000 in
theorem ck_AL_grow_d5877 : ckM M_AL_grow_d5877 = true := by decide +kernel
set_option maxRecDepth 100000 in
theorem ck_AL_get_915e3 : ckM M_AL_get_915e3 = true := by decide +kernel
set_option maxRecDepth 100000 in
theorem ck_AL_fastRemove_b59b0 : ckM M_AL_fastRemove_b59b0 = true := by decide +kernel
set_option maxRecDepth 100000 in
theorem ck_J8_newLength_cabcc : ckM M_J8_newLength_cabcc = true := by decide +kernel
end
section
set_option maxRecDepth 100000 in
theorem ck_X1_raiseTo : ckM M_X1_raiseTo = true := by decide +kernel
set_option maxRecDepth 100000 in
theorem ck_X4_init : ckM M_X4_init = true := by decide +kernel
set_option maxRecDepth 100000 in
theorem ck_X5_hasMostOperations : ckM M_X5_hasMostOperations = true := by decide +kernel
set_option maxRecDepth 100000 in
theorem ck_X5_receive : ckM M_X5_receive = true := by decide +kernel
set_option maxRecDepth 100000 in
theorem ck_X5_isReady : ckM M_X5_isReady = true := by decide +kernel
set_option maxRecDepth 100000 in
theorem ck_X5_keepGreaterMark : ckM M_X5_keepGreaterMark = true := by decide +kernel
set_option maxRecDepth 100000 in
theorem ck_X6_lettersEver : ckM M_X6_lettersEver = true := by decide +kernel
set_option maxRecDepth 100000 in
theorem ck_X6_bringOut : ckM M_X6_bringOut = true := by decide +kernel
set_option maxRecDepth 100000 in
theorem ck_X7_send : ckM M_X7_send = true := by decide +kernel
set_option maxRecDepth 100000 in
theorem ck_X8_take : ckM M_X8_take = true := by decide +kernel
set_option maxRecDepth 100000 in
theorem ck_X8_deliver : ckM M_X8_deliver = true := by decide +kernel
set_option maxRecDepth 100000 in
theorem ck_X8_tell : ckM M_X8_tell = true := by decide +kernel
set_option maxRecDepth 100000 in
theorem ck_X8_size : ckM M_X8_size = true := by decide +kernel
set_option maxRecDepth 100000 in
theorem ck_X8_clock : ckM M_X8_clock = true := by decide +kernel
set_option maxRecDepth 100000 in
theorem ck_X8_way : ckM M_X8_way = true := by decide +kernel
set_option maxRecDepth 100000 in
theorem ck_X8_isCharacter : ckM M_X8_isCharacter = true := by decide +kernel
set_option maxRecDepth 100000 in
theorem ck_X8_wayBetween : ckM M_X8_wayBetween = true := by decide +kernel
set_option maxRecDepth 100000 in
theorem ck_X9_init : ckM M_X9_init = true := by decide +kernel
set_option maxRecDepth 100000 in
theorem ck_X9_ownerOf : ckM M_X9_ownerOf = true := by decide +kernel
set_option maxRecDepth 100000 in
theorem ck_X9_was : ckM M_X9_was = true := by decide +kernel
set_option maxRecDepth 100000 in
theorem ck_X9_isElement : ckM M_X9_isElement = true := by decide +kernel
set_option maxRecDepth 100000 in
theorem ck_X9_insert : ckM M_X9_insert = true := by decide +kernel
set_option maxRecDepth 100000 in
theorem ck_X9_has : ckM M_X9_has = true := by decide +kernel
set_option maxRecDepth 100000 in
theorem ck_X9_pileUp : ckM M_X9_pileUp = true := by decide +kernel
set_option maxRecDepth 100000 in
theorem ck_X9_isWay : ckM M_X9_isWay = true := by decide +kernel
set_option maxRecDepth 100000 in
theorem ck_X9_moveMessage : ckM M_X9_moveMessage = true := by decide +kernel
set_option maxRecDepth 100000 in
theorem ck_X9_isReady : ckM M_X9_isReady = true := by decide +kernel
set_option maxRecDepth 100000 in
theorem ck_X9_answer : ckM M_X9_answer = true := by decide +kernel
set_option maxRecDepth 100000 in
theorem ck_X9_speak : ckM M_X9_speak = true := by decide +kernel
set_option maxRecDepth 100000 in
theorem ck_X9_clock : ckM M_X9_clock = true := by decide +kernel
set_option maxRecDepth 100000 in
theorem ck_X9_message : ckM M_X9_message = true := by decide +kernel
set_option maxRecDepth 100000 in
theorem ck_Jxc12de_init_da8c8 : ckM M_Jxc12de_init_da8c8 = true := by decide +kernel
set_option maxRecDepth 100000 in
theorem ck_AL_size_8abf5 : ckM M_AL_size_8abf5 = true := by decide +kernel
set_option maxRecDepth 100000 in
theorem ck_AL_add_72be8 : ckM M_AL_add_72be8 = true := by decide +kernel
set_option maxRecDepth 100000 in
theorem ck_J7_copyOf_1904c : ckM M_J7_copyOf_1904c = true := by decide +kernel
set_option maxRecDepth 100000 in
theorem ck_J8_hugeLength_7cf53 : ckM M_J8_hugeLength_7cf53 = true := by decide +kernel
end
section
/-! THE TIE of the small machine's heap to the real one -/
def vO (h : Hp) (c k a : Nat) : Value := if cty c k = 1 then va_rf (fR h (32 * c + k) a) else .int (fI h (32 * c + k) a)
def vA (h : Hp) (a j : Nat) : Value := if kd h a < 22 then .int (aI h a j) else va_rf (aR h a j)
def aty (k : Nat) : FieldType := if k = 20 then .int else if k = 21 then .boolean else .object (anm k)
def RpO (D : va_G) (h : Hp) (H : Heap) (a : Nat) : Prop := ∃ r : vw_C, wc[kd h a - 1]? = some r ∧ t_OB a (D.1 (kd h a - 1)) r.2.2 (D.2 (kd h a - 1)) H (fun k => vO h (kd h a - 1) k a)
def RpA (s : State) (h : Hp) (H : Heap) (a : Nat) : Prop := ∃ cA : ClassId, H[a]? = some (arrV cA (ln h a) (vA h a)) ∧ ArrOfT s cA (aty (kd h a)) ∧ va_RA s cA (aty (kd h a))
def RpS (s : State) (h : Hp) (H : Heap) (a : Nat) : Prop := ∃ c : Cell, H[a]? = some c ∧ s.isArrayOf c .int ∧ c.vm ≠ .unknown ∧ c.slots.size = ln h a ∧ ∀ j : Nat, j < ln h a → c.slots[j]? = some (.int (aI h a j))
def RpE (s : State) (h : Hp) (H : Heap) (a : Nat) : Prop := ∃ c : Cell, H[a]? = some c ∧ s.isArrayOf c (.object "java/lang/Object") ∧ c.vm ≠ .unknown ∧ c.slots.size.toInt32 = nI (ln h a)
def Rp1 (D : va_G) (b : Nat) (s : State) (h : Hp) (H : Heap) (a : Nat) : Prop := (1 ≤ kd h a ∧ kd h a ≤ 11 ∧ b ≤ a ∧ RpO D h H a) ∨ (20 ≤ kd h a ∧ kd h a ≤ 27 ∧ b ≤ a ∧ RpA s h H a) ∨ (kd h a = 41 ∧ a < b ∧ RpS s h H a) ∨ (kd h a = 42 ∧ a < b ∧ RpE s h H a)
def Rp (D : va_G) (b g0 g1 : Nat) (s : State) (h : Hp) (H : Heap) : Prop := H.size = sz h ∧ b ≤ sz h ∧ (∀ a, kd h a ≠ 0 → Rp1 D b s h H a) ∧ (∀ a, kd h a = 22 → ∀ j y, aR h a j = some y → kd h y = 4 ∨ kd h y = 5) ∧ gc h 0 = g0 ∧ gc h 1 = g1
theorem Rp1.moved {D : va_G} {b : Nat} {s U : State} {h : Hp} {H : Heap} {a : Nat} (hvm : s.vm.Alike U.vm) (r : Rp1 D b s h H a) : Rp1 D b U h H a := by
  rcases r with r | ⟨r1, r2, r3, cA, r4, r5, r6⟩ | ⟨r1, r2, c, r3, r4, r5⟩ | ⟨r1, r2, c, r3, r4, r5⟩
  · exact Or.inl r
  · exact Or.inr (Or.inl ⟨r1, r2, r3, cA, r4, arrOfT_moved hvm r5, r6.moved hvm⟩)
  · exact Or.inr (Or.inr (Or.inl ⟨r1, r2, c, r3, State.isArrayOf_alike hvm r4, r5⟩))
  · exact Or.inr (Or.inr (Or.inr ⟨r1, r2, c, r3, State.isArrayOf_alike hvm r4, r5⟩))
theorem Rp.moved {D : va_G} {b g0 g1 : Nat} {s U : State} {h : Hp} {H : Heap} (hvm : s.vm.Alike U.vm) (r : Rp D b g0 g1 s h H) : Rp D b g0 g1 U h H := ⟨r.1, r.2.1, fun a ha => (r.2.2.1 a ha).moved hvm, r.2.2.2⟩
theorem Rp1.lt {D : va_G} {b : Nat} {s : State} {h : Hp} {H : Heap} {a : Nat} (r : Rp1 D b s h H a) : a < H.size := by
  rcases r with ⟨-, -, -, r, -, cell, h2, -⟩ | ⟨-, -, -, cA, r4, -⟩ | ⟨-, -, c, r3, -⟩ | ⟨-, -, c, r3, -⟩
  · exact (Array.getElem?_eq_some_iff.mp h2).1
  · exact (Array.getElem?_eq_some_iff.mp r4).1
  · exact (Array.getElem?_eq_some_iff.mp r3).1
  · exact (Array.getElem?_eq_some_iff.mp r3).1
/-- a cell that is not touched, and of which the small heap says the same -/
theorem Rp1.kept {D : va_G} {b : Nat} {s : State} {h h1 : Hp} {H H1 : Heap} {a : Nat} (r : Rp1 D b s h H a) (hH : H1[a]? = H[a]?) (e1 : kd h1 a = kd h a) (e2 : ln h1 a = ln h a) (e3 : ∀ f, fI h1 f a = fI h f a) (e4 : ∀ f, fR h1 f a = fR h f a) (e5 : aI h1 a = aI h a) (e6 : aR h1 a = aR h a) : Rp1 D b s h1 H1 a := by
  have eV : vA h1 a = vA h a := by
    funext j
    simp only [vA, e1, e5, e6]
  have eO : ∀ c k, vO h1 c k a = vO h c k a := by
    intro c k
    simp only [vO, e3, e4]
  rcases r with ⟨r1, r2, r3, q, h1', h2⟩ | ⟨r1, r2, r3, cA, r4, r5, r6⟩ | ⟨r1, r2, c, r3, r4, r5, r6, r7⟩ | ⟨r1, r2, c, r3, r4, r5⟩
  · refine Or.inl ⟨by rw [e1]; exact r1, by rw [e1]; exact r2, r3, q, by rw [e1]; exact h1', ?_⟩
    rw [e1]
    exact (h2.kept hH).to (fun k _ => (eO _ k).symm)
  · exact Or.inr (Or.inl ⟨by rw [e1]; exact r1, by rw [e1]; exact r2, r3, cA, by rw [hH, e2, eV]; exact r4, by rw [e1]; exact r5, by rw [e1]; exact r6⟩)
  · exact Or.inr (Or.inr (Or.inl ⟨by rw [e1]; exact r1, r2, c, hH.trans r3, r4, r5, by rw [e2]; exact r6, fun j hj => by rw [e5]; exact r7 j (by rw [e2] at hj; exact hj)⟩))
  · exact Or.inr (Or.inr (Or.inr ⟨by rw [e1]; exact r1, r2, c, hH.trans r3, r4, by rw [e2]; exact r5⟩))
def isSp (w : Cond) : Bool := match w with
  | .castable .. => true
  | .methodLinkNest .. => true
  | .declares _ => true
  | .arrayOver (.object _) => true
  | _ => false
def Sp (s : State) : Prop := ∀ w ∈ lw_tbl, isSp w = true → va_Nw w s
/-- what a method's start knows of the tables -/
def Kx (D : va_G) (b g0 g1 : Nat) (s : State) : Prop := va_K D wc [] s ∧ Sp s ∧ va_Z "java/util/ArrayList" "DEFAULTCAPACITY_EMPTY_ELEMENTDATA" "[Ljava/lang/Object;" (.ref g0) (fun q => b ≤ q) s s.heap ∧ va_Mi "[Ljava/lang/Object;" g1 s
theorem Sp.warm {s U : State} (hW : s.WarmedH U.vm) (h : Sp s) : Sp U := by
  intro w hw hs
  have h1 := h w hw hs
  cases w <;> first | exact va_Nw.warmC hW h1 | exact va_Nw.warmM hW h1 | exact va_Nw.warmD hW h1 | (rename_i t; cases t <;> first | exact va_AO.moved hW.alike h1 | (simp [isSp] at hs; done) | skip) | (simp [isSp] at hs; done)
end
section
/-! locals -/
def prs (L : Lv) : List (Nat × Value) := (List.range L.length).filterMap (fun i => match L[i]? with
  | some (some v) => some (i, v)
  | _ => none)
def LRp (L : Lv) (ls : Array Slot) : Prop := ls.size = L.length ∧ lv_wf ls ∧ ∀ (i : Nat) (v : Value), L[i]? = some (some v) → ls[i]? = some (.val v) ∧ v.category = 1
theorem prs_mem {L : Lv} {i : Nat} {v : Value} : (i, v) ∈ prs L ↔ L[i]? = some (some v) := by
  unfold prs
  rw [List.mem_filterMap]
  constructor
  · rintro ⟨j, -, hj⟩
    cases hL : L[j]? with
    | none => rw [hL] at hj; cases hj
    | some o =>
      rw [hL] at hj
      cases o with
      | none => cases hj
      | some w =>
        cases hj
        exact hL
  · intro h
    refine ⟨i, List.mem_range.mpr (List.getElem?_eq_some_iff.mp h).1, ?_⟩
    rw [h]
theorem LRp.has {L : Lv} {ls : Array Slot} (h : LRp L ls) : lv_has ls L.length (prs L) := ⟨h.1, h.2.1, fun q hq => (h.2.2 q.1 q.2 (prs_mem.mp hq)).1⟩
theorem LRp.store {L : Lv} {ls ls' : Array Slot} {i : Nat} {v : Value} (h : LRp L ls) (hi : i < L.length) (hv : v.category = 1) (h' : lv_has ls' L.length ((i, v) :: (prs L).filter (fun q => !(q.1 == i) && !(q.1 + 1 == i && q.2.category == 2)))) : LRp (L.set i (some v)) ls' := by
  refine ⟨by rw [List.length_set]; exact h'.1, h'.2.1, fun j w hj => ?_⟩
  by_cases hji : j = i
  · subst hji
    rw [List.getElem?_set_self hi] at hj
    cases hj
    exact ⟨h'.2.2 (j, v) List.mem_cons_self, hv⟩
  · rw [List.getElem?_set_ne (fun q => hji q.symm)] at hj
    have h2 := (h.2.2 j w hj).2
    refine ⟨h'.2.2 (j, w) (List.mem_cons_of_mem _ (List.mem_filter.mpr ⟨prs_mem.mpr hj, ?_⟩)), h2⟩
    simp [hji, h2]
theorem LRp.at {L : Lv} {ls : Array Slot} {i : Nat} {v : Value} (h : LRp L ls) (hi : L[i]? = some (some v)) : ls[i]? = some (.val v) := (h.2.2 i v hi).1
/-! values -/
theorem sm_in_eq {v : Value} {x : Int32} (h : sm_in v = some x) : v = .int x := by
  cases v <;> simp_all [sm_in]
theorem sm_rf_eq {v : Value} {r : Option Nat} (h : sm_rf v = some r) : v = va_rf r := by
  cases v <;> simp_all [sm_rf] <;> subst h <;> rfl
theorem sm_rf_va (r : Option Nat) : sm_rf (va_rf r) = some r := by cases r <;> rfl
theorem sm_in_int (x : Int32) : sm_in (.int x) = some x := rfl
theorem cat_rf (r : Option Nat) : (va_rf r).category = 1 := by cases r <;> rfl
theorem cat_sum {st : List Value} (h : ∀ v ∈ st, v.category = 1) : (st.map fun v => v.category).sum = st.length := by
  induction st with
  | nil => rfl
  | cons v r ih =>
    rw [List.map_cons, List.sum_cons, ih (fun w hw => h w (List.mem_cons_of_mem _ hw)), h v List.mem_cons_self, List.length_cons]
    omega
theorem seek_pc {p : List Ent} {t : Nat} {e : Ent} {r : List Ent} (h : sm_seek p t = e :: r) : e.1 = t := by
  induction p with
  | nil => cases h
  | cons a q ih =>
    unfold sm_seek at h
    cases hb : Nat.beq a.1 t with
    | true =>
      rw [hb] at h
      cases h
      exact Nat.eq_of_beq_eq_true hb
    | false =>
      rw [hb] at h
      exact ih h
/-! the tables' rows -/
theorem wc_lt {c : Nat} {q : vw_C} (h : wc[c]? = some q) : c < 11 := (List.getElem?_eq_some_iff.mp h).1
theorem wok_of {c : Nat} {q : vw_C} (h : wc[c]? = some q) : wok c q = true := by
  have h1 := List.all_eq_true.mp wok_all c (List.mem_range.mpr (wc_lt h))
  rw [h] at h1
  exact h1
theorem wc_facts {c : Nat} {q : vw_C} (h : wc[c]? = some q) : (∀ w ∈ u_ws q.1 q.2.1 q.2.2, w ∈ bw) ∧ (∀ k, k < q.2.2 → parseFieldDescriptor (q.2.1 k).2.2.1 = some (wty c k) ∧ cty c k < 3 ∧ k < 32) ∧ (∀ a, a < q.2.2 → ∀ b, b < q.2.2 → a ≠ b → (q.2.1 a).2.1 ≠ (q.2.1 b).2.1) ∧ Cond.instantiable q.1 q.2.2 ∈ bw ∧ Cond.initialized q.1 ∈ bw := by
  have h1 := wok_of h
  simp only [wok, Bool.and_eq_true, List.all_eq_true, decide_eq_true_eq, List.mem_range, Bool.or_eq_true, Nat.beq_eq] at h1
  obtain ⟨⟨⟨⟨a1, a2⟩, a3⟩, a4⟩, a5⟩ := h1
  refine ⟨a1, fun k hk => ⟨(a2 k hk).1.1, ?_, ?_⟩, fun a ha b hb hab => ?_, a4, a5⟩
  · exact Nat.le_of_ble_eq_true (a2 k hk).1.2
  · exact Nat.le_of_ble_eq_true (a2 k hk).2
  · rcases a3 a ha b hb with q | q
    · exact absurd q hab
    · exact q
theorem tF_get {o i kf fid : Nat} (h : (o, i, kf, fid) ∈ tF) : ∃ (q : vw_C) (ref : String), wc[kf - 1]? = some q ∧ 1 ≤ kf ∧ 32 * (kf - 1) ≤ fid ∧ fid - 32 * (kf - 1) < q.2.2 ∧ Cond.fieldLink (own o) i ref (q.2.1 (fid - 32 * (kf - 1))).2.1 (q.2.1 (fid - 32 * (kf - 1))).2.2.1 ∈ bw ∧ (ref = (q.2.1 (fid - 32 * (kf - 1))).1 ∨ Cond.sameField ref (q.2.1 (fid - 32 * (kf - 1))).1 (q.2.1 (fid - 32 * (kf - 1))).2.1 (q.2.1 (fid - 32 * (kf - 1))).2.2.1 ∈ bw) := by
  rw [tF_x] at h
  obtain ⟨r, hr, he⟩ := List.mem_map.mp h
  have h1 := List.all_eq_true.mp tF_ok r hr
  obtain ⟨p, o', i', kf', fid'⟩ := r
  cases he
  unfold okF at h1
  cases hq : wc[kf - 1]? with
  | none => rw [hq] at h1; cases h1
  | some q =>
    rw [hq] at h1
    simp only [Bool.and_eq_true, Bool.or_eq_true] at h1
    obtain ⟨⟨⟨a1, a2⟩, a3⟩, a4⟩ := h1
    have b1 := Nat.le_of_ble_eq_true a1
    have b2 := Nat.le_of_ble_eq_true a2
    have b3 : fid - 32 * (kf - 1) < q.2.2 := Nat.le_of_ble_eq_true a3
    rcases a4 with a4 | ⟨a4, a5⟩
    · exact ⟨q, _, rfl, b1, b2, b3, wat_in a4, Or.inl rfl⟩
    · exact ⟨q, _, rfl, b1, b2, b3, wat_in a4, Or.inr (wat_in a5)⟩
theorem tC_get {o i k : Nat} (h : (o, i, k) ∈ tC) : Cond.classLink (own o) i (kn k) ∈ bw := by
  rw [tC_x] at h
  obtain ⟨r, hr, he⟩ := List.mem_map.mp h
  have h1 := List.all_eq_true.mp tC_ok r hr
  obtain ⟨p, o', i', k'⟩ := r
  cases he
  exact wat_in h1
theorem tK_get {o i a b : Nat} (h : (o, i, a, b) ∈ tK) : Cond.constant (own o) i (sm_lit a b) ∈ bw := by
  rw [tK_x] at h
  obtain ⟨r, hr, he⟩ := List.mem_map.mp h
  have h1 := List.all_eq_true.mp tK_ok r hr
  obtain ⟨p, o', i', a', b'⟩ := r
  cases he
  exact wat_in h1
theorem tB_get {o i k : Nat} (h : (o, i, k) ∈ tB) : Cond.methodLink (own o) i (bN k) ∈ bw := by
  rw [tB_x] at h
  obtain ⟨r, hr, he⟩ := List.mem_map.mp h
  have h1 := List.all_eq_true.mp tB_ok r hr
  obtain ⟨p, o', i', k'⟩ := r
  cases he
  exact wat_in h1
theorem tM_get {o i k z : Nat} (h : (o, i, k, z) ∈ tM) : ∃ m, MT[k]? = some m ∧ (z = 0 → Cond.methodLink (own o) i (mY m) ∈ bw) ∧ (z = 1 → Cond.methodLinkNest (own o) i (mY m) "ReplicaStore" ∈ lw_tbl) := by
  rw [tM_x] at h
  obtain ⟨r, hr, he⟩ := List.mem_map.mp h
  have h1 := List.all_eq_true.mp tM_ok r hr
  obtain ⟨p, o', i', k', z'⟩ := r
  cases he
  unfold okM at h1
  cases hm : MT[k]? with
  | none => rw [hm] at h1; cases h1
  | some m =>
    rw [hm] at h1
    refine ⟨m, rfl, fun hz => ?_, fun hz => ?_⟩
    · subst hz
      exact wat_in h1
    · subst hz
      exact sat_in h1
theorem MT_get {k : Nat} {m : MI} (hk : k < 145) (h : MT[k]? = some m) : ∃ p, okY m p = true := by
  have key : ∀ lo n, okYs lo n = true → lo ≤ k → k < lo + n → ∃ p, okY m p = true := by
    intro lo n ho h1 h2
    have h3 := List.all_eq_true.mp ho (k - lo) (List.mem_range.mpr (by omega))
    rw [show lo + (k - lo) = k by omega, h] at h3
    cases hp : tYp[k]? with
    | none => rw [hp] at h3; cases h3
    | some p => rw [hp] at h3; exact ⟨p, h3⟩
  by_cases a1 : k < 40
  · exact key 0 40 MT_ok1 (by omega) (by omega)
  · by_cases a2 : k < 80
    · exact key 40 40 MT_ok2 (by omega) (by omega)
    · by_cases a3 : k < 120
      · exact key 80 40 MT_ok3 (by omega) (by omega)
      · exact key 120 25 MT_ok4 (by omega) (by omega)
theorem aty_o {k : Nat} (h1 : 22 ≤ k) (h2 : k ≤ 27) : aty k = .object (anm k) := by
  unfold aty
  rw [if_neg (by omega), if_neg (by omega)]
theorem ao_in {k : Nat} (h1 : 22 ≤ k) (h2 : k ≤ 27) : Cond.arrayOver (.object (anm k)) ∈ lw_tbl := by
  have h := List.all_eq_true.mp ao_ok
  rcases (show k = 22 ∨ k = 23 ∨ k = 24 ∨ k = 25 ∨ k = 26 ∨ k = 27 by omega) with rfl | rfl | rfl | rfl | rfl | rfl
  · exact sat_in (h (362, 22) (by simp))
  · exact sat_in (h (73, 23) (by simp))
  · exact sat_in (h (75, 24) (by simp))
  · exact sat_in (h (82, 25) (by simp))
  · exact sat_in (h (111, 26) (by simp))
  · exact sat_in (h (113, 27) (by simp))
end
section
/-! ROWS: an instruction of the real machine over a heap that is tied to a small one -/
def Cx (D : va_G) (b g0 g1 : Nat) (p : Program) (R : Room) (s : State) (m : MethodId) (args : Array Value) (meth : Method) (c : Code) (mi : MI) : Prop :=
  p.tables.exec = Jvm.exec ∧ c.code = mC mi ∧ c.maxLocals = mL mi ∧ s.vm.findClass (owN mi) = some m.cls ∧ (∀ w ∈ bw, w.before args s = true) ∧ Kx D b g0 g1 s ∧ b ≤ s.heap.size ∧ mF mi ≤ R.frames ∧ mO mi ≤ R.locals ∧ (mK mi = 1 → meth.name = "<init>")
theorem own_owN (mi : MI) : own (mW mi) = owN mi := rfl
def Put1 (h h' : Hp) (fid a : Nat) : Prop := kd h' = kd h ∧ ln h' = ln h ∧ aI h' = aI h ∧ aR h' = aR h ∧ gc h' = gc h ∧ sz h' = sz h ∧ ∀ f q, ¬ (f = fid ∧ q = a) → fI h' f q = fI h f q ∧ fR h' f q = fR h f q
def PutA (h h' : Hp) (a : Nat) : Prop := kd h' = kd h ∧ ln h' = ln h ∧ fI h' = fI h ∧ fR h' = fR h ∧ gc h' = gc h ∧ sz h' = sz h ∧ ∀ q, q ≠ a → aI h' q = aI h q ∧ aR h' q = aR h q
theorem put1_I (h : Hp) (f a : Nat) (x : Int32) : Put1 h (wfI h f a x) f a := ⟨rfl, rfl, rfl, rfl, rfl, rfl, fun f' q hn => ⟨by show (if f' = f ∧ q = a then _ else _) = _; rw [if_neg hn], rfl⟩⟩
theorem put1_R (h : Hp) (f a : Nat) (x : Option Nat) : Put1 h (wfR h f a x) f a := ⟨rfl, rfl, rfl, rfl, rfl, rfl, fun f' q hn => ⟨rfl, by show (if f' = f ∧ q = a then _ else _) = _; rw [if_neg hn]⟩⟩
theorem putA_I (h : Hp) (a j : Nat) (x : Int32) : PutA h (waI h a j x) a := ⟨rfl, rfl, rfl, rfl, rfl, rfl, fun q hn => ⟨by funext i; show (if q = a ∧ i = j then _ else _) = _; rw [if_neg (fun z => hn z.1)], rfl⟩⟩
theorem putA_R (h : Hp) (a j : Nat) (x : Option Nat) : PutA h (waR h a j x) a := ⟨rfl, rfl, rfl, rfl, rfl, rfl, fun q hn => ⟨rfl, by funext i; show (if q = a ∧ i = j then _ else _) = _; rw [if_neg (fun z => hn z.1)]⟩⟩
theorem putA_c (h : Hp) (a0 sp a dp n : Nat) : PutA h (hcpy h a0 sp a dp n) a := ⟨rfl, rfl, rfl, rfl, rfl, rfl, fun q hn => ⟨rfl, by funext i; show (if q = a ∧ dp ≤ i ∧ i < dp + n then _ else _) = _; rw [if_neg (fun z => hn z.1)]⟩⟩
theorem Rp.obj {D : va_G} {b g0 g1 : Nat} {s : State} {h : Hp} {H : Heap} (r : Rp D b g0 g1 s h H) {a : Nat} (h1 : 1 ≤ kd h a) (h2 : kd h a ≤ 11) : b ≤ a ∧ RpO D h H a := by
  rcases r.2.2.1 a (by omega) with q | q | q | q
  · exact q.2.2
  · omega
  · omega
  · omega
theorem Rp.arr {D : va_G} {b g0 g1 : Nat} {s : State} {h : Hp} {H : Heap} (r : Rp D b g0 g1 s h H) {a : Nat} (h1 : 20 ≤ kd h a) (h2 : kd h a ≤ 27) : b ≤ a ∧ RpA s h H a := by
  rcases r.2.2.1 a (by omega) with q | q | q | q
  · omega
  · exact q.2.2
  · omega
  · omega
theorem Rp.put1 {D : va_G} {b g0 g1 : Nat} {s : State} {h h' : Hp} {H H1 : Heap} {fid a : Nat} (r : Rp D b g0 g1 s h H) (hp : Put1 h h' fid a) (hz : H1.size = H.size) (ho : ∀ q, q ≠ a → H1[q]? = H[q]?) (ha : Rp1 D b s h' H1 a) : Rp D b g0 g1 s h' H1 := by
  obtain ⟨e1, e2, e3, e4, e5, e6, e7⟩ := hp
  refine ⟨by rw [hz, e6]; exact r.1, by rw [e6]; exact r.2.1, fun q hq => ?_, fun q hq j y hy => ?_, by rw [e5]; exact r.2.2.2.2.1, by rw [e5]; exact r.2.2.2.2.2⟩
  · by_cases hqa : q = a
    · subst hqa
      exact ha
    · rw [e1] at hq
      exact (r.2.2.1 q hq).kept (ho q hqa) (by rw [e1]) (by rw [e2]) (fun f => (e7 f q (fun z => hqa z.2)).1) (fun f => (e7 f q (fun z => hqa z.2)).2) (by rw [e3]) (by rw [e4])
  · rw [e1] at hq ⊢
    rw [e4] at hy
    exact r.2.2.2.1 q hq j y hy
theorem Rp.putA {D : va_G} {b g0 g1 : Nat} {s : State} {h h' : Hp} {H H1 : Heap} {a : Nat} (r : Rp D b g0 g1 s h H) (hp : PutA h h' a) (hz : H1.size = H.size) (ho : ∀ q, q ≠ a → H1[q]? = H[q]?) (ha : Rp1 D b s h' H1 a) (h22 : kd h a = 22 → ∀ j y, aR h' a j = some y → kd h y = 4 ∨ kd h y = 5) : Rp D b g0 g1 s h' H1 := by
  obtain ⟨e1, e2, e3, e4, e5, e6, e7⟩ := hp
  refine ⟨by rw [hz, e6]; exact r.1, by rw [e6]; exact r.2.1, fun q hq => ?_, fun q hq j y hy => ?_, by rw [e5]; exact r.2.2.2.2.1, by rw [e5]; exact r.2.2.2.2.2⟩
  · by_cases hqa : q = a
    · subst hqa
      exact ha
    · rw [e1] at hq
      exact (r.2.2.1 q hq).kept (ho q hqa) (by rw [e1]) (by rw [e2]) (fun f => by rw [e3]) (fun f => by rw [e4]) (e7 q hqa).1 (e7 q hqa).2
  · rw [e1] at hq ⊢
    by_cases hqa : q = a
    · subst hqa
      exact h22 hq j y hy
    · rw [(e7 q hqa).2] at hy
      exact r.2.2.2.1 q hq j y hy
/-- a new cell -/
theorem Rp.new {D : va_G} {b g0 g1 : Nat} {s : State} {h h' : Hp} {H H1 : Heap} (r : Rp D b g0 g1 s h H) (hz : H1.size = H.size + 1) (ho : ∀ q, q < H.size → H1[q]? = H[q]?) (e0 : sz h' = sz h + 1) (e5 : gc h' = gc h) (e1 : ∀ q, q ≠ sz h → kd h' q = kd h q ∧ ln h' q = ln h q ∧ (∀ f, fI h' f q = fI h f q) ∧ (∀ f, fR h' f q = fR h f q) ∧ aI h' q = aI h q ∧ aR h' q = aR h q) (ha : Rp1 D b s h' H1 (sz h)) (h22 : ∀ j, aR h' (sz h) j = none) : Rp D b g0 g1 s h' H1 := by
  have hlt : ∀ q, kd h q ≠ 0 → q < sz h := fun q hq => by rw [← r.1]; exact (r.2.2.1 q hq).lt
  refine ⟨by rw [hz, e0, r.1], by rw [e0]; have := r.2.1; omega, fun q hq => ?_, fun q hq j y hy => ?_, by rw [e5]; exact r.2.2.2.2.1, by rw [e5]; exact r.2.2.2.2.2⟩
  · by_cases hqa : q = sz h
    · subst hqa
      exact ha
    · obtain ⟨f1, f2, f3, f4, f5, f6⟩ := e1 q hqa
      rw [f1] at hq
      exact (r.2.2.1 q hq).kept (ho q (by rw [r.1]; exact hlt q hq)) f1 f2 f3 f4 f5 f6
  · by_cases hqa : q = sz h
    · subst hqa
      rw [h22] at hy
      cases hy
    · obtain ⟨f1, f2, f3, f4, f5, f6⟩ := e1 q hqa
      rw [f1] at hq
      rw [f6] at hy
      have h1 := r.2.2.2.1 q hq j y hy
      rw [(e1 y (fun z => by have := hlt y (by omega); omega)).1]
      exact h1
section ROWS
variable {p : Program} {l : Launch} {e : Env} {R : Room} {s : State} {m : MethodId} {args : Array Value} {below : List Frame} {meth : Method} {c : Code} {H : Heap} {locs : List Loc} {cells slots : Nat} {Q : State → Prop}
variable {pc : Nat} {ls : Array Slot} {rest : List Value} {D : va_G} {b g0 g1 : Nat} {mi : MI} {h : Hp} {a : Nat}
theorem sr_get (C : Cx D b g0 g1 p R s m args meth c mi) (hR : Rp D b g0 g1 s h H) {i kf fid : Nat} (hF : (mW mi, i, kf, fid) ∈ tF) (hk : kd h a = kf) (hdg : decode (mC mi) pc = .ok (.getfield i, 3))
    (kk : W p l e R s m args below meth c H locs cells slots Q (F0 m (pc + 3) ls (vO h (kf - 1) (fid - 32 * (kf - 1)) a :: rest))) : W p l e R s m args below meth c H locs cells slots Q (F0 m pc ls (.ref a :: rest)) := by
  obtain ⟨hx, hb, hml, hown, hts, ⟨hK, -⟩, -⟩ := C
  obtain ⟨q, ref, q1, q2, q3, q4, q5, q6⟩ := tF_get hF
  obtain ⟨w1, w2, w3, w4, w5⟩ := wc_facts q1
  have h11 := wc_lt q1
  obtain ⟨-, r, r1, cell, r2, r3, r4, r5⟩ := hR.obj (a := a) (by omega) (by omega)
  rw [hk] at r1 r3 r5
  cases q1.symm.trans r1
  obtain ⟨hS, hfc, kC, hkC, hkind⟩ := hK.1 _ _ q1
  obtain ⟨cf, kf', fi, f, hi, hsl⟩ := hS _ q4
  have hsame : ∀ x, s.fieldFound? (q.2.1 (fid - 32 * (kf - 1))).1 (q.2.1 (fid - 32 * (kf - 1))).2.1 (q.2.1 (fid - 32 * (kf - 1))).2.2.1 = some x → s.fieldFound? ref (q.2.1 (fid - 32 * (kf - 1))).2.1 (q.2.1 (fid - 32 * (kf - 1))).2.2.1 = some x := by
    rcases q6 with q6 | q6
    · rw [q6]
      exact fun x hx => hx
    · exact u_same (hts _ q6)
  refine W.getf hx hb hown (hts _ q5) (hsame _ hi) (u_facts hfc hkC (u_lays hts w1 q4) hi).1 r2 (by rw [r4]; exact fun z => by cases z) (v := vO h (kf - 1) (fid - 32 * (kf - 1)) a) ?_ rfl rfl hdg kk
  rw [hsl, r5 _ q4]
theorem sr_put (C : Cx D b g0 g1 p R s m args meth c mi) (hR : Rp D b g0 g1 s h H) (hS0 : va_S (fun q => b ≤ q) s.heap H locs) {i kf fid : Nat} (hF : (mW mi, i, kf, fid) ∈ tF) (hk : kd h a = kf) (hckP : ckP mi kf fid = true) (hdg : decode (mC mi) pc = .ok (.putfield i, 3)) {v : Value} {h' : Hp} (hp : Put1 h h' fid a) (hv : vO h' (kf - 1) (fid - 32 * (kf - 1)) a = v)
    (hn : narrow (wty (kf - 1) (fid - 32 * (kf - 1))) v = v) (hfit : fits (wty (kf - 1) (fid - 32 * (kf - 1))) v = true)
    (kk : ∀ (H1 : Heap) (locs1 : List Loc), Rp D b g0 g1 s h' H1 → va_S (fun q => b ≤ q) s.heap H1 locs1 → W p l e R s m args below meth c H1 locs1 cells slots Q (F0 m (pc + 3) ls rest)) : W p l e R s m args below meth c H locs cells slots Q (F0 m pc ls (v :: .ref a :: rest)) := by
  obtain ⟨hx, hb, hml, hown, hts, ⟨hK, -⟩, -, -, -, hini⟩ := C
  obtain ⟨q, ref, q1, q2, q3, q4, q5, q6⟩ := tF_get hF
  obtain ⟨w1, w2, w3, w4, w5⟩ := wc_facts q1
  have h11 := wc_lt q1
  obtain ⟨hba, r, r1, cell, r2, r3, r4, r5⟩ := hR.obj (a := a) (by omega) (by omega)
  rw [hk] at r1 r3 r5
  cases q1.symm.trans r1
  have hap := va_apart (own := "") hts w1 (wty (kf - 1)) (fun k hk => (w2 k hk).1) w3 hK q1
  obtain ⟨hS, hfc, kC, hkC, hkind⟩ := hK.1 _ _ q1
  obtain ⟨cf, kf', fi, f, hi, hsl⟩ := hS _ q4
  have hsame : ∀ x, s.fieldFound? (q.2.1 (fid - 32 * (kf - 1))).1 (q.2.1 (fid - 32 * (kf - 1))).2.1 (q.2.1 (fid - 32 * (kf - 1))).2.2.1 = some x → s.fieldFound? ref (q.2.1 (fid - 32 * (kf - 1))).2.1 (q.2.1 (fid - 32 * (kf - 1))).2.2.1 = some x := by
    rcases q6 with q6 | q6
    · rw [q6]
      exact fun x hx => hx
    · exact u_same (hts _ q6)
  have hst := (u_facts hfc hkC (u_lays hts w1 q4) hi).1
  have hlay := hts _ (w1 _ (u_in_lay q4))
  have hfin : ∀ (H1 : Heap), H1[a]? = some (cell.setSlot f.slot v) → H1.size = H.size → (∀ z, z ≠ a → H1[z]? = H[z]?) → Rp D b g0 g1 s h' H1 := by
    intro H1 e1 e2 e3
    refine hR.put1 hp e2 e3 (Or.inl ⟨by rw [hp.1]; omega, by rw [hp.1]; omega, hba, q, by rw [hp.1, hk]; exact q1, ?_⟩)
    rw [hp.1, hk]
    rw [hsl] at e1
    refine t_OB.to (V := updV (fun k => vO h (kf - 1) k a) (fid - 32 * (kf - 1)) v) ⟨_, e1, r3, r4, t_set r5 hap q4 v⟩ (fun j hj => ?_)
    by_cases hjk : j = fid - 32 * (kf - 1)
    · subst hjk
      rw [hv]
      simp [updV]
    · have hne : ¬ (32 * (kf - 1) + j = fid ∧ a = a) := fun z => hjk (by omega)
      simp only [updV, if_neg hjk, vO, (hp.2.2.2.2.2.2 _ _ hne).1, (hp.2.2.2.2.2.2 _ _ hne).2]
  unfold u_lay at hlay
  cases hfl : (q.2.1 (fid - 32 * (kf - 1))).2.2.2 with
  | false =>
    rw [if_neg (by rw [hfl]; decide)] at hlay
    have h6 := u_store hfc hkC hkind hlay hi (w2 _ q4).1 hn hfit
    refine W.putK hx hb (f := f) ⟨hown, hts _ q5, ⟨_, _, _, hsame _ hi⟩, hst⟩ (by rw [r3]; exact h6) r2 r4 (by rw [hsl]; exact k2_hasslot (r5 _ q4)) rfl rfl hdg fun H' e1 e2 e3 => ?_
    exact kk H' _ (hfin H' e1 e2 e3) (hS0.put e2 e3 hba)
  | true =>
    rw [if_pos hfl] at hlay
    unfold ckP at hckP
    rw [q1] at hckP
    dsimp only at hckP
    rw [hfl] at hckP
    simp only [Bool.and_eq_true, decide_eq_true_eq] at hckP
    have hcf : m.cls = cf := by
      obtain ⟨_, _, c', _, _, _, -, -, hf', -, -, -, hown2, -⟩ := Cond.laysFinal_spec hlay
      have e1 : c' = cf := by have := hi.symm.trans hf'; simp at this; exact this.1.symm
      rw [hckP.2] at hown2
      rw [← e1]; exact Option.some.inj (hown.symm.trans hown2)
    have h6 := u_fits hfc hkC hkind (Or.inr hlay) hi (w2 _ q4).1 hn hfit
    refine W.putFinK hx hb hown (hts _ q5) (hsame _ hi) hst hcf (hini (Nat.eq_of_beq_eq_true hckP.1)) (by rw [r3]; exact h6) r2 r4 (by rw [hsl]; exact k2_hasslot (r5 _ q4)) rfl rfl hdg fun H' e1 e2 e3 => ?_
    exact kk H' _ (hfin H' e1 e2 e3) (hS0.put e2 e3 hba)
end ROWS
end
section
theorem ix_spec {i : Int32} {n j : Nat} (h : sm_ix i n = some j) : i.toNatClampNeg = j ∧ ¬ i < 0 ∧ j < n ∧ ¬ (i < 0 ∨ n ≤ i.toNatClampNeg) := by
  unfold sm_ix at h
  split at h
  · rename_i q
    cases h
    exact ⟨rfl, q.1, q.2, fun z => z.elim q.1 (fun z => by omega)⟩
  · cases h
theorem nat_spec {i : Int32} {n : Nat} (h : sm_nat i = some n) : i.toNatClampNeg = n ∧ ¬ i < 0 ∧ n ≤ 100000000 := by
  unfold sm_nat at h
  split at h
  · rename_i q
    cases h
    exact ⟨rfl, q.1, q.2⟩
  · cases h
theorem cls_kn {k : Nat} {q : vw_C} (h : wc[k - 1]? = some q) (h1 : 1 ≤ k) : kn k = q.1 := by
  have := wc_lt h
  unfold kn
  split
  · omega
  · omega
  · omega
  · rw [h]
    rfl
section ROWS2
variable {p : Program} {l : Launch} {e : Env} {R : Room} {s : State} {m : MethodId} {args : Array Value} {below : List Frame} {meth : Method} {c : Code} {H : Heap} {locs : List Loc} {cells slots : Nat} {Q : State → Prop}
variable {pc : Nat} {ls : Array Slot} {rest : List Value} {D : va_G} {b g0 g1 : Nat} {mi : MI} {h : Hp} {a : Nat}
theorem va_S.push1 {A : Nat → Prop} {H0 H1 : Heap} (hS : va_S A H0 H locs) (hz : H1.size = H.size + 1) (ho : ∀ q, q < H.size → H1[q]? = H[q]?) : va_S A H0 H1 locs := ⟨by rw [hz]; exact Nat.le_succ_of_le hS.1, fun q h1 h2 => by rw [ho q (Nat.lt_of_lt_of_le h1 hS.1)]; exact hS.2.1 q h1 h2, hS.2.2⟩
theorem sr_new (C : Cx D b g0 g1 p R s m args meth c mi) (hR : Rp D b g0 g1 s h H) (hS0 : va_S (fun q => b ≤ q) s.heap H locs) {i k n : Nat} (hC : (mW mi, i, k) ∈ tC) {q : vw_C} (hq : wc[k - 1]? = some q) (hk : 1 ≤ k) (hn : q.2.2 = n) (hdg : decode (mC mi) pc = .ok (.new i, 3)) (hcells : cells + 1 ≤ R.cells) (hslots : slots + n ≤ R.slots)
    (kk : ∀ (H1 : Heap), Rp D b g0 g1 s (hnew h k 0 n) H1 → va_S (fun q => b ≤ q) s.heap H1 locs → W p l e R s m args below meth c H1 locs (cells + 1) (slots + n) Q (F0 m (pc + 3) ls (.ref (sz h) :: rest))) : W p l e R s m args below meth c H locs cells slots Q (F0 m pc ls rest) := by
  obtain ⟨hx, hb, hml, hown, hts, ⟨hK, -⟩, -⟩ := C
  obtain ⟨w1, w2, w3, w4, w5⟩ := wc_facts hq
  have h11 := wc_lt hq
  have hKn := hK.1 _ _ hq
  subst hn
  have hlk := hts _ (tC_get hC)
  rw [own_owN, cls_kn hq hk] at hlk
  refine W.newcK hx hb hown hlk (hts _ w4) (hts _ w5) rfl hdg hcells hslots hKn.2.1 hR.1 fun H1 kC hkC e1 z1 o1 => ?_
  have o1' : ∀ q, q < H.size → H1[q]? = H[q]? := fun q hq => o1 q (by rw [← hR.1]; exact hq)
  have z1' : H1.size = H.size + 1 := by rw [z1, hR.1]
  have k0 : kd (hnew h k 0 q.2.2) (sz h) = k := if_pos rfl
  refine kk H1 (hR.new z1' o1' rfl rfl (fun z hz => ⟨if_neg hz, if_neg hz, fun f => if_neg hz, fun f => if_neg hz, by funext j; exact if_neg hz, by funext j; exact if_neg hz⟩) (Or.inl ⟨by rw [k0]; exact hk, by rw [k0]; omega, hR.2.1, q, by rw [k0]; exact hq, ?_⟩) (fun j => if_pos rfl)) (hS0.push1 z1' o1')
  rw [k0]
  refine (u_born (wty (k - 1)) hts w1 hKn hkC e1 (fun k hk => (w2 k hk).1)).to (fun j hj => ?_)
  obtain ⟨-, t2, -⟩ := w2 j hj
  have f1 : fI (hnew h k 0 q.2.2) (32 * (k - 1) + j) (sz h) = 0 := if_pos rfl
  have f2 : fR (hnew h k 0 q.2.2) (32 * (k - 1) + j) (sz h) = none := if_pos rfl
  unfold cty at t2
  unfold vO cty
  rw [f1, f2]
  cases hw : wty (k - 1) j <;> rw [hw] at t2 <;> first | rfl | (exact absurd t2 (by decide))
theorem sr_newa (C : Cx D b g0 g1 p R s m args meth c mi) (hR : Rp D b g0 g1 s h H) (hS0 : va_S (fun q => b ≤ q) s.heap H locs) {t : ArrayType} {k n : Nat} {x : Int32} (ht : (t = .int ∧ k = 20) ∨ (t = .boolean ∧ k = 21)) (hx : sm_nat x = some n) (hdg : decode (mC mi) pc = .ok (.newarray t, 2)) (hcells : cells + 1 ≤ R.cells) (hslots : slots + n ≤ R.slots)
    (kk : ∀ (H1 : Heap), Rp D b g0 g1 s (hnew h k n n) H1 → va_S (fun q => b ≤ q) s.heap H1 locs → W p l e R s m args below meth c H1 locs (cells + 1) (slots + n) Q (F0 m (pc + 2) ls (.ref (sz h) :: rest))) : W p l e R s m args below meth c H locs cells slots Q (F0 m pc ls (.int x :: rest)) := by
  obtain ⟨hx', hb, hml, hown, hts, ⟨hK, -⟩, -⟩ := C
  obtain ⟨n1, n2, n3⟩ := nat_spec hx
  have key : ∀ (ty : FieldType), newarray.typeOf t = ty → aty k = ty → defaultValue ty = .int 0 → (∀ (cA : ClassId), s.vm.findClass ("[" ++ ty.toString) = some cA → va_RA s cA ty) → (Cond.arrayClass ty) ∈ bw → n * componentBytes ty ≤ 536870912 → 20 ≤ k → k < 22 → W p l e R s m args below meth c H locs cells slots Q (F0 m pc ls (.int x :: rest)) := by
    intro ty h1 h2 h3 h4 h5 h6 h7 h8
    subst h1
    refine va_newaK hx' hb (hts _ h5) rfl hdg rfl n2 n1 h6 hcells hslots hR.1 fun H1 cA e1 z1 o1 hAr hNm => ?_
    have o1' : ∀ q, q < H.size → H1[q]? = H[q]? := fun q hq => o1 q (by rw [← hR.1]; exact hq)
    have z1' : H1.size = H.size + 1 := by rw [z1, hR.1]
    have k0 : kd (hnew h k n n) (sz h) = k := if_pos rfl
    have l0 : ln (hnew h k n n) (sz h) = n := if_pos rfl
    have v0 : vA (hnew h k n n) (sz h) = fun _ => defaultValue (newarray.typeOf t) := by
      funext j
      unfold vA
      rw [k0, if_pos h8, h3]
      congr 1
      exact if_pos rfl
    exact kk H1 (hR.new z1' o1' rfl rfl (fun z hz => ⟨if_neg hz, if_neg hz, fun f => if_neg hz, fun f => if_neg hz, by funext j; exact if_neg hz, by funext j; exact if_neg hz⟩) (Or.inr (Or.inl ⟨by rw [k0]; exact h7, by rw [k0]; omega, hR.2.1, cA, by rw [l0, v0]; exact e1, by rw [k0, h2]; exact hAr, by rw [k0, h2]; exact h4 cA hNm⟩)) (fun j => if_pos rfl)) (hS0.push1 z1' o1')
  rcases ht with ⟨rfl, rfl⟩ | ⟨rfl, rfl⟩
  · exact key .int rfl rfl rfl (fun cA h => h) w_aI (by show n * 4 ≤ _; omega) (by omega) (by omega)
  · exact key .boolean rfl rfl rfl (fun cA h => h) w_aZ (by show n * 1 ≤ _; omega) (by omega) (by omega)
theorem sr_newq (C : Cx D b g0 g1 p R s m args meth c mi) (hR : Rp D b g0 g1 s h H) (hS0 : va_S (fun q => b ≤ q) s.heap H locs) {i k n : Nat} {x : Int32} (h1 : 22 ≤ k) (h2 : k ≤ 27) (hC : Cond.classLink (owN mi) i (anm k) ∈ bw) (hx : sm_nat x = some n) (hdg : decode (mC mi) pc = .ok (.anewarray i, 3)) (hcells : cells + 1 ≤ R.cells) (hslots : slots + n ≤ R.slots)
    (kk : ∀ (H1 : Heap), Rp D b g0 g1 s (hnew h k n n) H1 → va_S (fun q => b ≤ q) s.heap H1 locs → W p l e R s m args below meth c H1 locs (cells + 1) (slots + n) Q (F0 m (pc + 3) ls (.ref (sz h) :: rest))) : W p l e R s m args below meth c H locs cells slots Q (F0 m pc ls (.int x :: rest)) := by
  obtain ⟨hx', hb, hml, hown, hts, ⟨hK, hSp, -⟩, -⟩ := C
  obtain ⟨n1, n2, n3⟩ := nat_spec hx
  subst n1
  refine W.anew hx' hb hown (hts _ hC) (va_AO.use (hSp _ (ao_in h1 h2) rfl)) rfl hdg rfl n2 (by omega) hcells hslots fun cA kA comp f1 f2 f3 f4 => ?_
  generalize hH1 : H.push ({ cls := cA, slots := Array.replicate x.toNatClampNeg .null, vm := .none } : Cell) = H1
  have z1 : H1.size = H.size + 1 := by rw [← hH1, Array.size_push]
  have e1 : H1[sz h]? = some (arrV cA x.toNatClampNeg (fun _ => .null)) := by rw [← hR.1, ← hH1, Array.getElem?_push_size, ← arrV_new]
  have o1 : ∀ q : Nat, q < H.size → H1[q]? = H[q]? := fun q hq => by rw [← hH1, Array.getElem?_push, if_neg (Nat.ne_of_lt hq)]
  have k0 : kd (hnew h k x.toNatClampNeg x.toNatClampNeg) (sz h) = k := if_pos rfl
  have l0 : ln (hnew h k x.toNatClampNeg x.toNatClampNeg) (sz h) = x.toNatClampNeg := if_pos rfl
  have v0 : vA (hnew h k x.toNatClampNeg x.toNatClampNeg) (sz h) = fun _ => .null := by
    funext j
    unfold vA
    rw [k0, if_neg (by omega)]
    have : aR (hnew h k x.toNatClampNeg x.toNatClampNeg) (sz h) j = none := if_pos rfl
    rw [this]
    rfl
  have hst : H.size = sz h := hR.1
  rw [hst]
  exact kk H1 (hR.new z1 o1 rfl rfl (fun z hz => ⟨if_neg hz, if_neg hz, fun f => if_neg hz, fun f => if_neg hz, by funext j; exact if_neg hz, by funext j; exact if_neg hz⟩) (Or.inr (Or.inl ⟨by rw [k0]; omega, by rw [k0]; omega, hR.2.1, cA, by rw [l0, v0]; exact e1, by rw [k0, aty_o h1 h2]; exact fun n z => ⟨fun k h => (by cases h), kA, f2, comp, f3⟩, by rw [k0, aty_o h1 h2]; exact ⟨kA, comp, f2, f3, f4, f1⟩⟩)) (fun j => if_pos rfl)) (hS0.push1 z1 o1)
theorem sr_alen (C : Cx D b g0 g1 p R s m args meth c mi) (hR : Rp D b g0 g1 s h H) (hk : sm_isA (kd h a) = true) (hdg : decode (mC mi) pc = .ok (.arraylength, 1))
    (kk : W p l e R s m args below meth c H locs cells slots Q (F0 m (pc + 1) ls (.int (nI (ln h a)) :: rest))) : W p l e R s m args below meth c H locs cells slots Q (F0 m pc ls (.ref a :: rest)) := by
  obtain ⟨hx, hb, -⟩ := C
  have hk0 : kd h a ≠ 0 := by
    intro z
    rw [z] at hk
    cases hk
  have hk12 : ¬ kd h a ≤ 11 := by
    intro z
    have : ∀ k, k ≤ 11 → sm_isA k = false := by decide
    rw [this _ z] at hk
    cases hk
  rcases hR.2.2.1 a hk0 with q | ⟨-, -, -, cA, r4, r5, -⟩ | ⟨-, -, cc, r3, r4, r5, r6, -⟩ | ⟨-, -, cc, r3, r4, r5, r6⟩
  · omega
  · exact W.alen hx hb r4 (r5 _ _) (by rw [arrV_size]; rfl) rfl rfl hdg kk
  · exact W.alen hx hb r3 r4 (by rw [r6]; rfl) rfl rfl hdg kk
  · exact W.alen hx hb r3 r4 r6 rfl rfl hdg kk
theorem sr_iald (C : Cx D b g0 g1 p R s m args meth c mi) (hR : Rp D b g0 g1 s h H) {i : Int32} {j : Nat} (hi : sm_ix i (ln h a) = some j) (hk : kd h a = 20 ∨ kd h a = 41) (hdg : decode (mC mi) pc = .ok (.iaload, 1))
    (kk : W p l e R s m args below meth c H locs cells slots Q (F0 m (pc + 1) ls (.int (aI h a j) :: rest))) : W p l e R s m args below meth c H locs cells slots Q (F0 m pc ls (.int i :: .ref a :: rest)) := by
  obtain ⟨hx, hb, -⟩ := C
  obtain ⟨i1, i2, i3, i4⟩ := ix_spec hi
  rcases hR.2.2.1 a (by omega) with q | ⟨-, q2, -, cA, r4, r5, -⟩ | ⟨-, -, cc, r3, r4, r5, r6, r7⟩ | q
  · omega
  · have hk : kd h a = 20 := by omega
    rw [hk] at r5
    refine W.iald hx hb r4 (r5 _ _) (by show (arrV _ _ _).vm ≠ _; exact fun z => by cases z) (by rw [arrV_size]; exact i4) (v := .int (aI h a j)) ?_ rfl rfl hdg kk
    rw [i1, arrV_read _ _ i3]
    unfold vA
    rw [if_pos (by omega)]
  · exact W.iald hx hb r3 r4 r5 (by rw [r6]; exact i4) (v := .int (aI h a j)) (by rw [i1]; exact r7 j i3) rfl rfl hdg kk
  · omega
theorem sr_zald (C : Cx D b g0 g1 p R s m args meth c mi) (hR : Rp D b g0 g1 s h H) {i : Int32} {j : Nat} (hi : sm_ix i (ln h a) = some j) (hk : kd h a = 21) (hdg : decode (mC mi) pc = .ok (.baload, 1))
    (kk : W p l e R s m args below meth c H locs cells slots Q (F0 m (pc + 1) ls (.int (aI h a j) :: rest))) : W p l e R s m args below meth c H locs cells slots Q (F0 m pc ls (.int i :: .ref a :: rest)) := by
  obtain ⟨hx, hb, -⟩ := C
  obtain ⟨i1, i2, i3, i4⟩ := ix_spec hi
  obtain ⟨-, cA, r4, r5, -⟩ := hR.arr (a := a) (by omega) (by omega)
  rw [hk] at r5
  refine W.zald hx hb r4 (r5 _ _) (by show (arrV _ _ _).vm ≠ _; exact fun z => by cases z) (by rw [arrV_size]; exact i4) (v := .int (aI h a j)) ?_ rfl rfl hdg kk
  rw [i1, arrV_read _ _ i3]
  unfold vA
  rw [if_pos (by omega)]
theorem sr_aald (C : Cx D b g0 g1 p R s m args meth c mi) (hR : Rp D b g0 g1 s h H) {i : Int32} {j : Nat} (hi : sm_ix i (ln h a) = some j) (h1 : 22 ≤ kd h a) (h2 : kd h a ≤ 27) (hdg : decode (mC mi) pc = .ok (.aaload, 1))
    (kk : W p l e R s m args below meth c H locs cells slots Q (F0 m (pc + 1) ls (va_rf (aR h a j) :: rest))) : W p l e R s m args below meth c H locs cells slots Q (F0 m pc ls (.int i :: .ref a :: rest)) := by
  obtain ⟨hx, hb, -⟩ := C
  obtain ⟨i1, i2, i3, i4⟩ := ix_spec hi
  obtain ⟨-, cA, r4, r5, -⟩ := hR.arr (a := a) (by omega) (by omega)
  rw [aty_o h1 h2] at r5
  refine W.aald hx hb r4 (r5 _ _) rfl (by show (arrV _ _ _).vm ≠ _; exact fun z => by cases z) (by rw [arrV_size]; exact i4) (v := va_rf (aR h a j)) ?_ rfl rfl hdg kk
  rw [i1, arrV_read _ _ i3]
  unfold vA
  rw [if_neg (by omega)]
theorem sr_iast (C : Cx D b g0 g1 p R s m args meth c mi) (hR : Rp D b g0 g1 s h H) (hS0 : va_S (fun q => b ≤ q) s.heap H locs) {i x : Int32} {j : Nat} (hi : sm_ix i (ln h a) = some j) (hk : kd h a = 20) (hdg : decode (mC mi) pc = .ok (.iastore, 1))
    (kk : ∀ (H1 : Heap) (locs1 : List Loc), Rp D b g0 g1 s (waI h a j x) H1 → va_S (fun q => b ≤ q) s.heap H1 locs1 → W p l e R s m args below meth c H1 locs1 cells slots Q (F0 m (pc + 1) ls rest)) : W p l e R s m args below meth c H locs cells slots Q (F0 m pc ls (.int x :: .int i :: .ref a :: rest)) := by
  obtain ⟨hx, hb, -⟩ := C
  obtain ⟨i1, i2, i3, i4⟩ := ix_spec hi
  obtain ⟨hba, cA, r4, r5, r6⟩ := hR.arr (a := a) (by omega) (by omega)
  refine W.iast hx hb r4 (by rw [hk] at r5; exact r5 _ _) (by show (arrV _ _ _).vm ≠ _; exact fun z => by cases z) (by rw [arrV_size]; exact i4) rfl rfl hdg fun H1 e1 e2 e3 => ?_
  refine kk H1 _ (hR.putA (putA_I h a j x) e2 e3 (Or.inr (Or.inl ⟨by show 20 ≤ kd h a; omega, by show kd h a ≤ 27; omega, hba, cA, ?_, r5, r6⟩)) (fun z => by omega)) (hS0.put e2 e3 hba)
  rw [e1, i1, arrV_store]
  congr 2
  funext z
  show updV _ _ _ _ = (if kd h a < 22 then Value.int (if a = a ∧ z = j then x else aI h a z) else _)
  rw [if_pos (by omega)]
  by_cases hz : z = j
  · subst hz
    simp [updV]
  · simp [updV, hz, vA, show kd h a < 22 by omega]
theorem sr_zast (C : Cx D b g0 g1 p R s m args meth c mi) (hR : Rp D b g0 g1 s h H) (hS0 : va_S (fun q => b ≤ q) s.heap H locs) {i x : Int32} {j : Nat} (hi : sm_ix i (ln h a) = some j) (hk : kd h a = 21) (hx01 : x = 0 ∨ x = 1) (hdg : decode (mC mi) pc = .ok (.bastore, 1))
    (kk : ∀ (H1 : Heap) (locs1 : List Loc), Rp D b g0 g1 s (waI h a j x) H1 → va_S (fun q => b ≤ q) s.heap H1 locs1 → W p l e R s m args below meth c H1 locs1 cells slots Q (F0 m (pc + 1) ls rest)) : W p l e R s m args below meth c H locs cells slots Q (F0 m pc ls (.int x :: .int i :: .ref a :: rest)) := by
  obtain ⟨hx, hb, -⟩ := C
  obtain ⟨i1, i2, i3, i4⟩ := ix_spec hi
  obtain ⟨hba, cA, r4, r5, r6⟩ := hR.arr (a := a) (by omega) (by omega)
  have hnr : narrow .boolean (.int x) = .int x := by rcases hx01 with rfl | rfl <;> rfl
  refine W.zast hx hb r4 (by rw [hk] at r5; exact r5 _ _) (by show (arrV _ _ _).vm ≠ _; exact fun z => by cases z) (by rw [arrV_size]; exact i4) rfl rfl hdg fun H1 e1 e2 e3 => ?_
  refine kk H1 _ (hR.putA (putA_I h a j x) e2 e3 (Or.inr (Or.inl ⟨by show 20 ≤ kd h a; omega, by show kd h a ≤ 27; omega, hba, cA, ?_, r5, r6⟩)) (fun z => by omega)) (hS0.put e2 e3 hba)
  rw [e1, hnr, i1, arrV_store]
  congr 2
  funext z
  show updV _ _ _ _ = (if kd h a < 22 then Value.int (if a = a ∧ z = j then x else aI h a z) else _)
  rw [if_pos (by omega)]
  by_cases hz : z = j
  · subst hz
    simp [updV]
  · simp [updV, hz, vA, show kd h a < 22 by omega]
end ROWS2
end
section
theorem elt_fact : ∀ k, 23 ≤ k → k ≤ 27 → 1 ≤ sm_elt k ∧ sm_elt k ≤ 11 ∧ sm_elt k ≠ 4 := by
  intro k h1 h2
  rcases (show k = 23 ∨ k = 24 ∨ k = 25 ∨ k = 26 ∨ k = 27 by omega) with rfl | rfl | rfl | rfl | rfl <;> decide
theorem w_cM : Cond.castable "ReplicaStore$Message" "java/lang/Object" ∈ lw_tbl := by decide +kernel
theorem w_cO : Cond.castable "ReplicaStore$Operation" "java/lang/Object" ∈ lw_tbl := by decide +kernel
theorem may_spec {ka k : Nat} (h : sm_may ka k = true) : (ka = 22 ∧ (k = 4 ∨ k = 5)) ∨ (23 ≤ ka ∧ ka ≤ 27 ∧ k = sm_elt ka) := by
  unfold sm_may at h
  cases hb : Nat.beq ka 22 with
  | true =>
    rw [hb] at h
    simp only [cond_true, Bool.or_eq_true, Nat.beq_eq] at h
    exact Or.inl ⟨Nat.eq_of_beq_eq_true hb, h⟩
  | false =>
    rw [hb] at h
    simp only [cond_false, Bool.and_eq_true, Nat.beq_eq, Nat.ble_eq] at h
    exact Or.inr ⟨h.1.1, h.1.2, h.2⟩
section ROWS3
variable {p : Program} {l : Launch} {e : Env} {R : Room} {s : State} {m : MethodId} {args : Array Value} {below : List Frame} {meth : Method} {c : Code} {H : Heap} {locs : List Loc} {cells slots : Nat} {Q : State → Prop}
variable {pc : Nat} {ls : Array Slot} {rest : List Value} {D : va_G} {b g0 g1 : Nat} {mi : MI} {h : Hp} {a : Nat}
theorem Rp.recv (hK : va_K D wc [] s) (hR : Rp D b g0 g1 s h H) {k : Nat} {q : vw_C} (hk : kd h a = k) (h1 : 1 ≤ k) (hq : wc[k - 1]? = some q) : ∃ cell : Cell, H[a]? = some cell ∧ cell.vm.isStatics = false ∧ s.vm.findClass q.1 = some cell.cls := by
  have h11 := wc_lt hq
  obtain ⟨-, r, r1, cell, r2, r3, r4, r5⟩ := hR.obj (a := a) (by omega) (by omega)
  rw [hk] at r1 r3
  cases hq.symm.trans r1
  exact ⟨cell, r2, by rw [r4]; rfl, by rw [r3]; exact (hK.1 _ _ hq).2.1⟩
/-- an object of a kind that an Object array may hold -/
theorem Rp.any (C : Kx D b g0 g1 s) (hR : Rp D b g0 g1 s h H) (hk : kd h a = 4 ∨ kd h a = 5) : va_Any "java/lang/Object" s H a := by
  obtain ⟨hK, hSp, -⟩ := C
  have key : ∀ (k : Nat) (q : vw_C), kd h a = k → 1 ≤ k → wc[k - 1]? = some q → va_Nw (.castable q.1 "java/lang/Object") s → va_Any "java/lang/Object" s H a := by
    intro k q h1 h2 h3 h4
    obtain ⟨cell, c1, c2, c3⟩ := hR.recv hK h1 h2 h3
    obtain ⟨kC, hkC, -⟩ := Vm.findClass_spec c3
    obtain ⟨c0, t0, f1, f2, f3⟩ := Cond.castable_spec h4
    cases c3.symm.trans f1
    refine ⟨cell, c1, c2, ⟨kC, hkC⟩, fun comp hc => ?_⟩
    cases hc.symm.trans f2
    exact f3
  rcases hk with hk | hk
  · exact key 4 _ hk (by decide) rfl (hSp _ w_cM rfl)
  · exact key 5 _ hk (by decide) rfl (hSp _ w_cO rfl)
theorem waR_RpA (hR : Rp D b g0 g1 s h H) {H1 : Heap} {cA : ClassId} {j : Nat} {x : Option Nat} (h1 : 22 ≤ kd h a) (e1 : H1[a]? = some ((arrV cA (ln h a) (vA h a)).setSlot j (va_rf x))) : H1[a]? = some (arrV cA (ln (waR h a j x) a) (vA (waR h a j x) a)) := by
  rw [e1, arrV_store]
  congr 2
  funext z
  show updV _ _ _ _ = (if kd h a < 22 then _ else va_rf (if a = a ∧ z = j then x else aR h a z))
  rw [if_neg (by omega)]
  by_cases hz : z = j
  · subst hz
    simp [updV]
  · simp [updV, hz, vA, show ¬ kd h a < 22 by omega]
theorem sr_aast (C : Cx D b g0 g1 p R s m args meth c mi) (hR : Rp D b g0 g1 s h H) (hS0 : va_S (fun q => b ≤ q) s.heap H locs) {i : Int32} {j y : Nat} (hi : sm_ix i (ln h a) = some j) (hmay : sm_may (kd h a) (kd h y) = true) (hdg : decode (mC mi) pc = .ok (.aastore, 1))
    (kk : ∀ (H1 : Heap) (locs1 : List Loc), Rp D b g0 g1 s (waR h a j (some y)) H1 → va_S (fun q => b ≤ q) s.heap H1 locs1 → W p l e R s m args below meth c H1 locs1 cells slots Q (F0 m (pc + 1) ls rest)) : W p l e R s m args below meth c H locs cells slots Q (F0 m pc ls (.ref y :: .int i :: .ref a :: rest)) := by
  obtain ⟨hx, hb, hml, hown, hts, hKx, -⟩ := C
  obtain ⟨i1, i2, i3, i4⟩ := ix_spec hi
  have hm := may_spec hmay
  have hr22 : 22 ≤ kd h a ∧ kd h a ≤ 27 := by rcases hm with hm | hm <;> omega
  obtain ⟨hba, cA, r4, r5, r6⟩ := hR.arr (a := a) (by omega) (by omega)
  have hany : va_Any (anm (kd h a)) s H y := by
    rcases hm with ⟨m1, m2⟩ | ⟨m1, m2, m3⟩
    · rw [m1]
      exact hR.any hKx m2
    · obtain ⟨f1, f2, f3⟩ := elt_fact _ m1 m2
      have hq : wc[kd h y - 1]? = some (wc[kd h y - 1]'(by show _ < 11; omega)) := List.getElem?_eq_getElem _
      obtain ⟨cell, c1, c2, c3⟩ := hR.recv (a := y) hKx.1 rfl (by omega) hq
      have hcl := (hKx.1.1 _ _ hq).2
      obtain ⟨kC, hkC, -⟩ := Vm.findClass_spec c3
      refine ⟨cell, c1, c2, ⟨kC, hkC⟩, fun comp hc => ?_⟩
      have e : anm (kd h a) = kn (kd h y) := by
        rw [m3]
        unfold anm
        split
        · omega
        · rfl
      rw [e, cls_kn hq (by omega)] at hc
      cases hc.symm.trans c3
      have e2 := Option.some.inj (hcl.1.symm.trans c3)
      rw [← e2]
      exact va_assign hcl
  rw [aty_o hr22.1 hr22.2] at r6
  obtain ⟨cellV, g1', g3', ⟨kC, hkC⟩, hasg⟩ := hany
  obtain ⟨kA, comp, k1, k2, k3, k4⟩ := id r6
  obtain ⟨kE, hkE, -⟩ := Vm.findClass_spec k3
  refine W.aast hx hb r4 (fun q h => by cases h) (fun h => by cases h) k1 k2 rfl hkE ⟨i2, by rw [arrV_size, i1]; exact i3⟩ g1' (fun q h => by rw [h] at g3'; cases g3') hkC (hasg _ k3) rfl rfl hdg fun H1 e1 e2 e3 => ?_
  refine kk H1 _ (hR.putA (putA_R h a j (some y)) e2 e3 (Or.inr (Or.inl ⟨by show 20 ≤ kd h a; omega, by show kd h a ≤ 27; omega, hba, cA, waR_RpA hR hr22.1 (by rw [e1, i1]; rfl), r5, ?_⟩)) (fun z j' y' hy => ?_)) (hS0.put e2 e3 hba)
  · show va_RA s cA (aty (kd h a))
    rw [aty_o hr22.1 hr22.2]
    exact r6
  · have hy : (if a = a ∧ j' = j then some y else aR h a j') = some y' := hy
    split at hy
    · cases hy
      rcases hm with hm | hm
      · exact hm.2
      · omega
    · exact hR.2.2.2.1 a z j' y' hy
theorem sr_aastN (C : Cx D b g0 g1 p R s m args meth c mi) (hR : Rp D b g0 g1 s h H) (hS0 : va_S (fun q => b ≤ q) s.heap H locs) {i : Int32} {j : Nat} (hi : sm_ix i (ln h a) = some j) (h1 : 22 ≤ kd h a) (h2 : kd h a ≤ 27) (hdg : decode (mC mi) pc = .ok (.aastore, 1))
    (kk : ∀ (H1 : Heap) (locs1 : List Loc), Rp D b g0 g1 s (waR h a j none) H1 → va_S (fun q => b ≤ q) s.heap H1 locs1 → W p l e R s m args below meth c H1 locs1 cells slots Q (F0 m (pc + 1) ls rest)) : W p l e R s m args below meth c H locs cells slots Q (F0 m pc ls (.null :: .int i :: .ref a :: rest)) := by
  obtain ⟨hx, hb, hml, hown, hts, hKx, -⟩ := C
  obtain ⟨i1, i2, i3, i4⟩ := ix_spec hi
  obtain ⟨hba, cA, r4, r5, r6⟩ := hR.arr (a := a) (by omega) (by omega)
  refine va_WaastN (C := anm (kd h a)) hx hb r4 (by rw [aty_o h1 h2] at r5; exact r5 _ _) (fun h => by cases h) (by rw [arrV_size]; exact i4) rfl rfl hdg fun H1 e1 e2 e3 => ?_
  refine kk H1 _ (hR.putA (putA_R h a j none) e2 e3 (Or.inr (Or.inl ⟨by show 20 ≤ kd h a; omega, by show kd h a ≤ 27; omega, hba, cA, waR_RpA hR h1 (by rw [e1, i1]; rfl), r5, r6⟩)) (fun z j' y' hy => ?_)) (hS0.put e2 e3 hba)
  have hy : (if a = a ∧ j' = j then none else aR h a j') = some y' := hy
  split at hy
  · cases hy
  · exact hR.2.2.2.1 a z j' y' hy
theorem sr_cast (C : Cx D b g0 g1 p R s m args meth c mi) (hR : Rp D b g0 g1 s h H) {i k : Nat} (hC : (mW mi, i, k) ∈ tC) (hk : kd h a = k) (hq : k = 20 ∨ (1 ≤ k ∧ k ≤ 11)) (hdg : decode (mC mi) pc = .ok (.checkcast i, 3))
    (kk : W p l e R s m args below meth c H locs cells slots Q (F0 m (pc + 3) ls (.ref a :: rest))) : W p l e R s m args below meth c H locs cells slots Q (F0 m pc ls (.ref a :: rest)) := by
  obtain ⟨hx, hb, hml, hown, hts, hKx, -⟩ := C
  have hlk := hts _ (tC_get hC)
  rw [own_owN] at hlk
  rcases hq with rfl | ⟨q1, q2⟩
  · obtain ⟨-, cA, r4, r5, r6⟩ := hR.arr (a := a) (by omega) (by omega)
    rw [hk] at r6
    have hnm : s.vm.findClass "[I" = some cA := r6
    intro T hT X
    obtain ⟨vm', X', st⟩ := X.checkcastYes hx hown hlk (by rw [hT]; exact r4) rfl hnm (va_asg _ _) (g := F0 m pc ls (.ref a :: rest)) rfl rfl (by rw [hb]; exact hdg)
    obtain ⟨t, a1, b1⟩ := kk (T.setVm vm') hT X'
    exact ⟨t, st t a1, b1⟩
  · have hq : wc[k - 1]? = some (wc[k - 1]'(by show _ < 11; omega)) := List.getElem?_eq_getElem _
    rw [cls_kn hq q1] at hlk
    exact va_castS hx hb hown hlk (hKx.1.1 _ _ hq).2 (hR.recv hKx.1 hk q1 hq) hdg kk
theorem sr_clone (C : Cx D b g0 g1 p R s m args meth c mi) (hml2 : ls.size = mL mi) (hR : Rp D b g0 g1 s h H) (hS0 : va_S (fun q => b ≤ q) s.heap H locs) {i : Nat} (hB : (mW mi, i, 1001) ∈ tB) (hk : kd h a = 20) (hF : 1 ≤ mF mi) (hO : 22 ≤ mO mi) (hrest : (rest.map fun v => v.category).sum ≤ 8) (hcells : cells + 1 ≤ R.cells) (hslots : slots + ln h a ≤ R.slots) (hdg : decode (mC mi) pc = .ok (.invokevirtual i, 3))
    (kk : ∀ (H1 : Heap), Rp D b g0 g1 s (hcln h a) H1 → va_S (fun q => b ≤ q) s.heap H1 locs → W p l e R s m args below meth c H1 locs (cells + 1) (slots + ln h a) Q (F0 m (pc + 3) ls (.ref (sz h) :: rest))) : W p l e R s m args below meth c H locs cells slots Q (F0 m pc ls (.ref a :: rest)) := by
  obtain ⟨hx, hb, hml, hown, hts, ⟨hK, hSp, -⟩, -, hf1, hf2, -⟩ := C
  obtain ⟨hba, cA, r4, r5, r6⟩ := hR.arr (a := a) (by omega) (by omega)
  rw [hk] at r5 r6
  have hnm : s.vm.findClass "[I" = some cA := r6
  have hlk := hts _ (tB_get hB)
  rw [own_owN] at hlk
  obtain ⟨c0, t0', f1, f2, f3⟩ := Cond.castable_spec (va_Nw.use (A := args) rfl (hSp _ w_cC rfl))
  cases hnm.symm.trans f1
  have hcellE : ({ cls := (arrV cA (ln h a) (vA h a)).cls, slots := (arrV cA (ln h a) (vA h a)).slots } : Cell) = arrV cA (ln h a) (vA h a) := rfl
  intro T hT X
  have hcellT : T.heap[a]? = some (arrV cA (ln h a) (vA h a)) := by rw [hT]; exact r4
  obtain ⟨-, kA, hkA, comp, hkind⟩ := State.isArrayOf_alike X.warmed.alike (r5 0 (fun _ => .null))
  obtain ⟨-, kS, hkS, compS, hkindS⟩ := r5 0 (fun _ => .null)
  obtain ⟨vm', X', st⟩ := X.cloneArray hx hown hlk (hts _ w_sC) (hts _ w_nC) (hts _ w_iC) (hts _ w_lC) (a := a) (cell := arrV cA (ln h a) (vA h a)) hcellT (fun k h => by cases h) (fun h => by cases h) hnm f2 f3
    (fun i v hv => by
      have hlt : i < ln h a := by
        have := (Array.getElem?_eq_some_iff.mp hv).1
        rw [arrV_size] at this
        exact this
      rw [arrV_read _ _ hlt] at hv
      cases hv
      have hk' : T.vm.classes[cA]? = some kA := hkA
      have hv2 : vA h a i = .int (aI h a i) := by unfold vA; rw [if_pos (by omega)]
      rw [hv2]
      show T.fitsSlot cA .none i _ = true
      have hkind' : kA.kind = .array comp .int := hkind
      simp [State.fitsSlot, State.slotType?, hk', hkind', fits])
    (g := F0 m pc ls (.ref a :: rest)) rfl (by rw [hml]; exact hml2) rfl (by rw [hb]; exact hdg) (by omega) (by show 2 * 0 + _ + 14 ≤ _; omega) hcells (by rw [arrV_size]; exact hslots) (hloader := Vm.clonesLoader_of_array hkS hkindS)
  rw [hcellE, arrV_size] at X'
  generalize hH1 : H.push (arrV cA (ln h a) (vA h a)) = H1
  have z1 : H1.size = H.size + 1 := by rw [← hH1, Array.size_push]
  have e1 : H1[sz h]? = some (arrV cA (ln h a) (vA h a)) := by rw [← hR.1, ← hH1, Array.getElem?_push_size]
  have o1 : ∀ q : Nat, q < H.size → H1[q]? = H[q]? := fun q hq => by rw [← hH1, Array.getElem?_push, if_neg (Nat.ne_of_lt hq)]
  have k0 : kd (hcln h a) (sz h) = 20 := if_pos rfl
  have l0 : ln (hcln h a) (sz h) = ln h a := if_pos rfl
  have v0 : vA (hcln h a) (sz h) = vA h a := by
    funext j
    unfold vA
    rw [k0, hk]
    have : aI (hcln h a) (sz h) j = aI h a j := if_pos rfl
    rw [this]
    rfl
  obtain ⟨t, b1, b2⟩ := kk H1 (hR.new z1 o1 rfl rfl (fun z hz => ⟨if_neg hz, if_neg hz, fun f => if_neg hz, fun f => if_neg hz, by funext j; exact if_neg hz, by funext j; exact if_neg hz⟩) (Or.inr (Or.inl ⟨by rw [k0]; exact Nat.le_refl _, by rw [k0]; decide, hR.2.1, cA, by rw [l0, v0]; exact e1, by rw [k0]; exact r5, by rw [k0]; exact r6⟩)) (fun j => if_pos rfl)) (hS0.push1 z1 o1) ((T.setVm vm').pushCell (arrV cA (ln h a) (vA h a))) (by rw [← hH1, ← hT]; rfl) X'
  refine ⟨t, st t ?_, b2⟩
  rw [hcellE, hT, hR.1]
  exact b1
theorem sr_copy (C : Cx D b g0 g1 p R s m args meth c mi) (hml2 : ls.size = mL mi) (hR : Rp D b g0 g1 s h H) (hS0 : va_S (fun q => b ≤ q) s.heap H locs) {i a0 : Nat} (hB : (mW mi, i, 1002) ∈ tB) (hk : kd h a = 22) (hk0 : kd h a0 = 22) (hF : 1 ≤ mF mi) (hO : 8 + (nativeFrameWords "java/lang/System" "arraycopy" 5 + 11) ≤ mO mi) (hrest : (rest.map fun v => v.category).sum ≤ 8)
    {sp dp n : Int32} (h1 : ¬ sp < 0) (h2 : ¬ dp < 0) (h3 : ¬ n < 0) (h4 : sp.toNatClampNeg + n.toNatClampNeg ≤ ln h a0) (h5 : dp.toNatClampNeg + n.toNatClampNeg ≤ ln h a) (hdg : decode (mC mi) pc = .ok (.invokestatic i, 3))
    (kk : ∀ (H1 : Heap) (locs1 : List Loc), Rp D b g0 g1 s (hcpy h a0 sp.toNatClampNeg a dp.toNatClampNeg n.toNatClampNeg) H1 → va_S (fun q => b ≤ q) s.heap H1 locs1 → W p l e R s m args below meth c H1 locs1 cells slots Q (F0 m (pc + 3) ls rest)) : W p l e R s m args below meth c H locs cells slots Q (F0 m pc ls (.int n :: .int dp :: .ref a :: .int sp :: .ref a0 :: rest)) := by
  obtain ⟨hx, hb, hml, hown, hts, hKx, -, hf1, hf2, -⟩ := C
  obtain ⟨hba, c1, r4, r5, r6⟩ := hR.arr (a := a) (by omega) (by omega)
  obtain ⟨hba0, c0, q4, q5, q6⟩ := hR.arr (a := a0) (by omega) (by omega)
  have hlk := hts _ (tB_get hB)
  rw [own_owN] at hlk
  have v1 : vA h a = fun j => va_rf (aR h a j) := by funext j; unfold vA; rw [if_neg (by omega)]
  have v0 : vA h a0 = fun j => va_rf (aR h a0 j) := by funext j; unfold vA; rw [if_neg (by omega)]
  rw [v1] at r4
  rw [v0] at q4
  rw [hk] at r5 r6
  rw [hk0] at q5 q6
  rw [aty_o (by decide) (by decide)] at r5 r6 q5 q6
  have nn : ∀ z : Int32, ¬ z < 0 → z.toInt = (z.toNatClampNeg : Int) := by
    intro z hz
    have hz0 : (0 : Int) ≤ z.toInt := by
      have := Int32.not_lt.mp hz
      simpa using Int32.le_iff_toInt_le.mp this
    show z.toInt = ((z.toInt.toNat : Nat) : Int)
    omega
  intro T hT X
  obtain ⟨-, k0, hk0', cm0, hkk0⟩ := q5 (ln h a0) (fun j => va_rf (aR h a0 j))
  obtain ⟨-, k1, hk1, cm1, hkk1⟩ := r5 (ln h a) (fun j => va_rf (aR h a j))
  obtain ⟨vm', X', step⟩ := X.arraycopy hx hown hlk (hts _ w_nA) (hts _ w_sA) (hts _ w_iS) (src := a0) (dst := a) (cs := arrV c0 (ln h a0) (fun j => va_rf (aR h a0 j))) (cd := arrV c1 (ln h a) (fun j => va_rf (aR h a j))) (srcPos := sp) (destPos := dp) (n := n) (by rw [hT]; exact q4) (by rw [hT]; exact r4)
    (fun _ h => by cases h) (fun _ h => by cases h) (fun h => by cases h) (fun h => by cases h) hk0' hk1 hkk0 hkk1 rfl h1 h2 h3
    (by rw [nn sp h1, nn n h3, arrV_size]; omega)
    (by rw [nn dp h2, nn n h3, arrV_size]; omega)
    (fun vm₁ hal i hi => by
      have e : (arrV c0 (ln h a0) (fun j => va_rf (aR h a0 j))).slots.getD (sp.toNatClampNeg + i) .null = va_rf (aR h a0 (sp.toNatClampNeg + i)) := by
        rw [Array.getD_eq_getD_getElem?, arrV_read _ _ (by omega)]
        rfl
      rw [e]
      cases hy : aR h a0 (sp.toNatClampNeg + i) with
      | none => exact ⟨rfl, trivial⟩
      | some y =>
        obtain ⟨cellV, g1', g2', ⟨kC, hkC⟩, hasg⟩ := hR.any (a := y) hKx (hR.2.2.2.1 a0 hk0 _ y hy)
        obtain ⟨kA, comp, r1, r2, r3, -⟩ := r6
        cases hk1.symm.trans r1
        cases hkk1.symm.trans r2
        obtain ⟨kE, hkE, -⟩ := Vm.findClass_spec r3
        obtain ⟨kC', hkC', -⟩ := hal.2.2 _ _ hkC
        obtain ⟨kE', hkE', -⟩ := hal.2.2 _ _ hkE
        refine ⟨rfl, cellV, (show T.heap[y]? = some cellV by rw [hT]; exact g1'), (fun q h => by rw [h] at g2'; cases g2'), ⟨kC', hkC'⟩, ?_, ?_⟩
        · exact ⟨kE', hkE'⟩
        · show vm₁.assignable _ _ = true
          rw [hal.assignable]
          exact hasg _ r3)
    (g := F0 m pc ls (.int n :: .int dp :: .ref a :: .int sp :: .ref a0 :: rest)) rfl (by rw [hml]; exact hml2) (rest := rest) rfl (by rw [hb]; exact hdg) (by omega) (by show 2 * 0 + _ + _ ≤ _; omega)
  have e1 : copied (arrV c0 (ln h a0) (fun j => va_rf (aR h a0 j))) (arrV c1 (ln h a) (fun j => va_rf (aR h a j))) sp dp n = arrV c1 (ln h a) (fun j => va_rf (va_cpy (aR h a0) (aR h a) sp.toNatClampNeg dp.toNatClampNeg n.toNatClampNeg j)) := va_copied (fun z => va_rf z) c0 c1 (aR h a0) (aR h a) h4
  rw [e1] at X' step
  have hl : a < H.size := (Array.getElem?_eq_some_iff.mp r4).1
  generalize hcl : arrV c1 (ln h a) (fun j => va_rf (va_cpy (aR h a0) (aR h a) sp.toNatClampNeg dp.toNatClampNeg n.toNatClampNeg j)) = cl at X' step
  have hheap : ((T.setVm vm').setCell a cl).heap = H.setIfInBounds a cl := by rw [← hT]; rfl
  have oq : ∀ q : Nat, q ≠ a → (H.setIfInBounds a cl)[q]? = H[q]? := fun q hq => by simp [Array.getElem?_setIfInBounds, Ne.symm hq]
  have ea : (H.setIfInBounds a cl)[a]? = some cl := by simp [Array.getElem?_setIfInBounds, hl]
  obtain ⟨t, a1, b1⟩ := kk _ _ (hR.putA (H1 := H.setIfInBounds a cl) (putA_c h a0 sp.toNatClampNeg a dp.toNatClampNeg n.toNatClampNeg) (by simp) oq (Or.inr (Or.inl ⟨by show 20 ≤ kd h a; omega, by show kd h a ≤ 27; omega, hba, c1, by
      rw [ea, ← hcl]
      congr 2
      funext z
      show _ = (if kd h a < 22 then _ else va_rf (if a = a ∧ dp.toNatClampNeg ≤ z ∧ z < dp.toNatClampNeg + n.toNatClampNeg then aR h a0 (sp.toNatClampNeg + (z - dp.toNatClampNeg)) else aR h a z))
      rw [if_neg (by omega)]
      simp [va_cpy], by show ArrOfT s c1 (aty (kd h a)); rw [hk]; exact r5, by show va_RA s c1 (aty (kd h a)); rw [hk]; exact r6⟩)) (fun z j' y' hy => by
      have hy : (if a = a ∧ dp.toNatClampNeg ≤ j' ∧ j' < dp.toNatClampNeg + n.toNatClampNeg then aR h a0 (sp.toNatClampNeg + (j' - dp.toNatClampNeg)) else aR h a j') = some y' := hy
      split at hy
      · exact hR.2.2.2.1 a0 hk0 _ y' hy
      · exact hR.2.2.2.1 a hk _ y' hy)) ⟨by simp; exact hS0.1, fun q g1 g2 => by
      rw [oq q (fun e => g2 (by rw [e]; exact hba))]
      exact hS0.2.1 q g1 g2, fun q hq => by
      rcases List.mem_append.mp hq with h | h
      · exact hS0.2.2 q h
      · obtain ⟨z, -, hz⟩ := List.mem_map.mp h
        rw [← hz]
        exact hba⟩ _ hheap X'
  exact ⟨t, step t a1, b1⟩
end ROWS3
end
section
def pcOf (code : List Ent) : Nat := match code with
  | [] => 0
  | e :: _ => e.1
theorem ild_spec {i : Nat} {code code' : List Ent} {L L' : Lv} {st st' : List Value} {h h' : Hp} (hs : sm_ild i code L st h = some (code', L', st', h')) : ∃ x, L[i]? = some (some (.int x)) ∧ code' = code ∧ L' = L ∧ st' = .int x :: st ∧ h' = h := by
  unfold sm_ild at hs
  split at hs
  · rename_i v hv
    split at hs
    · rename_i x hx
      cases hs
      exact ⟨x, by rw [hv, sm_in_eq hx], rfl, rfl, rfl, rfl⟩
    · cases hs
  · cases hs
theorem ald_spec {i : Nat} {code code' : List Ent} {L L' : Lv} {st st' : List Value} {h h' : Hp} (hs : sm_ald i code L st h = some (code', L', st', h')) : ∃ r, L[i]? = some (some (va_rf r)) ∧ code' = code ∧ L' = L ∧ st' = va_rf r :: st ∧ h' = h := by
  unfold sm_ald at hs
  split at hs
  · rename_i v hv
    split at hs
    · rename_i x hx
      cases hs
      have e := sm_rf_eq hx
      subst e
      exact ⟨x, hv, rfl, rfl, rfl, rfl⟩
    · cases hs
  · cases hs
theorem ist_spec {i : Nat} {code code' : List Ent} {L L' : Lv} {st st' : List Value} {h h' : Hp} (hs : sm_ist i code L st h = some (code', L', st', h')) : ∃ x, st = .int x :: st' ∧ i < L.length ∧ code' = code ∧ L' = L.set i (some (.int x)) ∧ h' = h := by
  unfold sm_ist at hs
  split at hs
  · rename_i v r
    split at hs
    · rename_i x hx
      cases hb : Nat.blt i L.length with
      | false => rw [hb] at hs; cases hs
      | true =>
        rw [hb] at hs
        cases hs
        exact ⟨x, by rw [sm_in_eq hx], Nat.le_of_ble_eq_true hb, rfl, rfl, rfl⟩
    · cases hs
  · cases hs
theorem ast_spec {i : Nat} {code code' : List Ent} {L L' : Lv} {st st' : List Value} {h h' : Hp} (hs : sm_ast i code L st h = some (code', L', st', h')) : ∃ r, st = va_rf r :: st' ∧ i < L.length ∧ code' = code ∧ L' = L.set i (some (va_rf r)) ∧ h' = h := by
  unfold sm_ast at hs
  split at hs
  · rename_i v r
    split at hs
    · rename_i x hx
      have e := sm_rf_eq hx
      subst e
      cases hb : Nat.blt i L.length with
      | false => rw [hb] at hs; cases hs
      | true =>
        rw [hb] at hs
        cases hs
        exact ⟨x, rfl, Nat.le_of_ble_eq_true hb, rfl, rfl, rfl⟩
    · cases hs
  · cases hs
theorem bin_spec {f : Int32 → Int32 → Int32} {code code' : List Ent} {L L' : Lv} {st st' : List Value} {h h' : Hp} (hs : sm_bin f code L st h = some (code', L', st', h')) : ∃ x y r, st = .int y :: .int x :: r ∧ code' = code ∧ L' = L ∧ st' = .int (f x y) :: r ∧ h' = h := by
  unfold sm_bin at hs
  split at hs
  · rename_i v w r
    split at hs
    · rename_i y x hy hx
      cases hs
      exact ⟨x, y, r, by rw [sm_in_eq hx, sm_in_eq hy], rfl, rfl, rfl, rfl⟩
    · cases hs
  · cases hs
theorem binD_spec {f : Int32 → Int32 → Int32} {code code' : List Ent} {L L' : Lv} {st st' : List Value} {h h' : Hp} (hs : sm_binD f code L st h = some (code', L', st', h')) : ∃ x y r, st = .int y :: .int x :: r ∧ ¬ y = 0 ∧ code' = code ∧ L' = L ∧ st' = .int (f x y) :: r ∧ h' = h := by
  unfold sm_binD at hs
  split at hs
  · rename_i v w r
    split at hs
    · rename_i y x hy hx
      split at hs
      · cases hs
      · rename_i hne
        cases hs
        exact ⟨x, y, r, by rw [sm_in_eq hx, sm_in_eq hy], hne, rfl, rfl, rfl, rfl⟩
    · cases hs
  · cases hs
theorem arr_spec {st r : List Value} {h : Hp} {a j : Nat} (hs : sm_arr st h = some (a, j, r)) : ∃ i, st = .int i :: .ref a :: r ∧ sm_ix i (ln h a) = some j := by
  unfold sm_arr at hs
  split at hs
  · rename_i v w r'
    split at hs
    · rename_i i a' hi ha
      split at hs
      · rename_i j' hj
        cases hs
        exact ⟨i, by rw [sm_in_eq hi, sm_rf_eq ha]; rfl, hj⟩
      · cases hs
    · cases hs
  · cases hs
theorem cls0 {e : Ent} (h : sm_cls e ≠ 3) {mi : MI} (hck : ckE mi e = true) : decode (mC mi) e.1 = .ok (e.2.1, e.2.2.1) ∧ ckI mi e = true := by
  unfold ckE at hck
  rw [Bool.and_eq_true, decide_eq_true_eq, Bool.or_eq_true] at hck
  refine ⟨hck.1, hck.2.resolve_left fun z => h ?_⟩
  unfold sm_cls
  rw [Nat.eq_of_beq_eq_true z]
  rfl
theorem cmp_eq {x y : Int32} : (sm_cmp .eq x y = true) = (x = y) := by simp [sm_cmp]
theorem cmp_ne {x y : Int32} : (sm_cmp .ne x y = true) = (x ≠ y) := by simp [sm_cmp]
theorem cmp_lt {x y : Int32} : (sm_cmp .lt x y = true) = (x < y) := by simp [sm_cmp]
theorem cmp_ge {x y : Int32} : (sm_cmp .ge x y = true) = (y ≤ x) := by simp [sm_cmp]
theorem cmp_gt {x y : Int32} : (sm_cmp .gt x y = true) = (y < x) := by simp [sm_cmp]
theorem cmp_le {x y : Int32} : (sm_cmp .le x y = true) = (x ≤ y) := by simp [sm_cmp]
theorem seek_ne {p : List Ent} {t : Nat} (h : sm_seek p t ≠ []) : pcOf (sm_seek p t) = t := by
  cases hq : sm_seek p t with
  | nil => exact absurd hq h
  | cons e r => exact seek_pc hq
section STEP
variable {p : Program} {l : Launch} {env : Env} {R : Room} {s : State} {m : MethodId} {args : Array Value} {below : List Frame} {meth : Method} {c : Code} {H : Heap} {locs : List Loc} {cells slots : Nat} {Q : State → Prop}
variable {ls : Array Slot} {D : va_G} {b g0 g1 : Nat} {mi : MI}
/-- where a step may go on -/
def Kk (p : Program) (l : Launch) (env : Env) (R : Room) (s : State) (m : MethodId) (args : Array Value) (below : List Frame) (meth : Method) (c : Code) (cells slots : Nat) (Q : State → Prop) (D : va_G) (b g0 g1 : Nat) (mi : MI) (h h' : Hp) (L' : Lv) (st' : List Value) (code' : List Ent) : Prop :=
  ∀ (H1 : Heap) (locs1 : List Loc) (ls1 : Array Slot), Rp D b g0 g1 s h' H1 → LRp L' ls1 → va_S (fun q => b ≤ q) s.heap H1 locs1 → (∀ v ∈ st', v.category = 1) → L'.length = mL mi → W p l env R s m args below meth c H1 locs1 (cells + (sz h' - sz h)) (slots + (sl h' - sl h)) Q (F0 m (pcOf code') ls1 st')
theorem Kk.use {h h' : Hp} {L' : Lv} {st' : List Value} {code' : List Ent} {pc' : Nat} (kk : Kk p l env R s m args below meth c cells slots Q D b g0 g1 mi h h' L' st' code') (hpc : pcOf code' = pc') (hz : sz h' = sz h) (hsl : sl h' = sl h) (hcat : ∀ v ∈ st', v.category = 1) (hlen : L'.length = mL mi) {H1 : Heap} {locs1 : List Loc} {ls1 : Array Slot} (hR : Rp D b g0 g1 s h' H1) (hL : LRp L' ls1) (hS : va_S (fun q => b ≤ q) s.heap H1 locs1) : W p l env R s m args below meth c H1 locs1 cells slots Q (F0 m pc' ls1 st') := by
  have := kk H1 locs1 ls1 hR hL hS hcat hlen
  rw [hz, hsl, Nat.sub_self, Nat.sub_self, hpc] at this
  exact this
theorem st_load (C : Cx D b g0 g1 p R s m args meth c mi) {pc len x1 x2 x3 : Nat} {ins : Instr} {code code' : List Ent} {L L' : Lv} {st st' : List Value} {h h' : Hp} (hdg : decode (mC mi) pc = .ok (ins, len)) (hI : ckI mi (pc, ins, len, x1, x2, x3) = true)
    (hnx : code ≠ [] → pcOf code = pc + len) (hs : sm_step mi (pc, ins, len, x1, x2, x3) code L st h = some (code', L', st', h')) (hne : code' ≠ []) (hR : Rp D b g0 g1 s h H) (hL : LRp L ls) (hLl : L.length = mL mi) (hst : ∀ v ∈ st, v.category = 1) (hS0 : va_S (fun q => b ≤ q) s.heap H locs) (kk : Kk p l env R s m args below meth c cells slots Q D b g0 g1 mi h h' L' st' code')
    (hins : (∃ k, ins = .iload_n k) ∨ (∃ k, ins = .iload k) ∨ (∃ k, ins = .aload_n k) ∨ (∃ k, ins = .aload k) ∨ (∃ k, ins = .istore_n k) ∨ (∃ k, ins = .istore k) ∨ (∃ k, ins = .astore_n k) ∨ (∃ k, ins = .astore k) ∨ ∃ k n, ins = .iinc k n) :
    W p l env R s m args below meth c H locs cells slots Q (F0 m pc ls st) := by
  obtain ⟨hx, hb, -⟩ := C
  rcases hins with ⟨k, rfl⟩ | ⟨k, rfl⟩ | ⟨k, rfl⟩ | ⟨k, rfl⟩ | ⟨k, rfl⟩ | ⟨k, rfl⟩ | ⟨k, rfl⟩ | ⟨k, rfl⟩ | ⟨k, n, rfl⟩
  · obtain rfl : len = 1 := Nat.eq_of_beq_eq_true hI
    obtain ⟨x, h1, rfl, rfl, rfl, rfl⟩ := ild_spec (i := k.val) hs
    exact lv_iload_n hx hb hdg rfl (hL.at h1) (kk.use (hnx hne) rfl rfl (List.forall_mem_cons.mpr ⟨rfl, hst⟩) hLl hR hL hS0)
  · obtain rfl : len = 2 := Nat.eq_of_beq_eq_true hI
    obtain ⟨x, h1, rfl, rfl, rfl, rfl⟩ := ild_spec (i := k) hs
    exact lv_iload hx hb hdg (hL.at h1) (kk.use (hnx hne) rfl rfl (List.forall_mem_cons.mpr ⟨rfl, hst⟩) hLl hR hL hS0)
  · obtain rfl : len = 1 := Nat.eq_of_beq_eq_true hI
    obtain ⟨x, h1, rfl, rfl, rfl, rfl⟩ := ald_spec (i := k.val) hs
    have K := kk.use (hnx hne) rfl rfl (List.forall_mem_cons.mpr ⟨cat_rf x, hst⟩) hLl hR hL hS0
    cases x with
    | none => exact lv_aload_nN hx hb hdg rfl (hL.at h1) K
    | some a => exact lv_aload_n hx hb hdg rfl (hL.at h1) K
  · obtain rfl : len = 2 := Nat.eq_of_beq_eq_true hI
    obtain ⟨x, h1, rfl, rfl, rfl, rfl⟩ := ald_spec (i := k) hs
    have K := kk.use (hnx hne) rfl rfl (List.forall_mem_cons.mpr ⟨cat_rf x, hst⟩) hLl hR hL hS0
    cases x with
    | none => exact lv_aloadN hx hb hdg (hL.at h1) K
    | some a => exact lv_aload hx hb hdg (hL.at h1) K
  · obtain rfl : len = 1 := Nat.eq_of_beq_eq_true hI
    obtain ⟨x, rfl, h1, rfl, rfl, rfl⟩ := ist_spec (i := k.val) hs
    exact lv_istore_n hx hb hdg rfl hL.has h1 rfl fun ls' hl' => kk.use (hnx hne) rfl rfl (List.forall_mem_cons.mp hst).2 (by rw [List.length_set]; exact hLl) hR (hL.store h1 rfl hl') hS0
  · obtain rfl : len = 2 := Nat.eq_of_beq_eq_true hI
    obtain ⟨x, rfl, h1, rfl, rfl, rfl⟩ := ist_spec (i := k) hs
    exact lv_istore hx hb hdg hL.has h1 rfl fun ls' hl' => kk.use (hnx hne) rfl rfl (List.forall_mem_cons.mp hst).2 (by rw [List.length_set]; exact hLl) hR (hL.store h1 rfl hl') hS0
  · obtain rfl : len = 1 := Nat.eq_of_beq_eq_true hI
    obtain ⟨x, rfl, h1, rfl, rfl, rfl⟩ := ast_spec (i := k.val) hs
    cases x with
    | none => exact lv_astore_nN hx hb hdg rfl hL.has h1 rfl fun ls' hl' => kk.use (hnx hne) rfl rfl (List.forall_mem_cons.mp hst).2 (by rw [List.length_set]; exact hLl) hR (hL.store h1 rfl hl') hS0
    | some a => exact lv_astore_n hx hb hdg rfl hL.has h1 rfl fun ls' hl' => kk.use (hnx hne) rfl rfl (List.forall_mem_cons.mp hst).2 (by rw [List.length_set]; exact hLl) hR (hL.store h1 rfl hl') hS0
  · obtain rfl : len = 2 := Nat.eq_of_beq_eq_true hI
    obtain ⟨x, rfl, h1, rfl, rfl, rfl⟩ := ast_spec (i := k) hs
    cases x with
    | none => exact lv_astoreN hx hb hdg hL.has h1 rfl fun ls' hl' => kk.use (hnx hne) rfl rfl (List.forall_mem_cons.mp hst).2 (by rw [List.length_set]; exact hLl) hR (hL.store h1 rfl hl') hS0
    | some a => exact lv_astore hx hb hdg hL.has h1 rfl fun ls' hl' => kk.use (hnx hne) rfl rfl (List.forall_mem_cons.mp hst).2 (by rw [List.length_set]; exact hLl) hR (hL.store h1 rfl hl') hS0
  · simp only [ckI, Bool.and_eq_true, decide_eq_true_eq] at hI
    obtain rfl : len = 3 := Nat.eq_of_beq_eq_true hI.1
    simp only [sm_step] at hs
    split at hs
    · rename_i v hv
      split at hs
      · rename_i x hxx
        cases hs
        rw [sm_in_eq hxx] at hv
        have h1 : k < L.length := (List.getElem?_eq_some_iff.mp hv).1
        obtain ⟨q, hq⟩ := List.getElem?_of_mem (prs_mem.mpr hv)
        exact lv_iinc hx hb hdg hL.has hq (by rw [hI.2]) h1 rfl fun ls' hl' => kk.use (hnx hne) rfl rfl hst (by rw [List.length_set]; exact hLl) hR (hL.store h1 rfl hl') hS0
      · cases hs
    · cases hs
end STEP
end
section
section STEP2
variable {p : Program} {l : Launch} {env : Env} {R : Room} {s : State} {m : MethodId} {args : Array Value} {below : List Frame} {meth : Method} {c : Code} {H : Heap} {locs : List Loc} {cells slots : Nat} {Q : State → Prop}
variable {ls : Array Slot} {D : va_G} {b g0 g1 : Nat} {mi : MI}

theorem st_bin (C : Cx D b g0 g1 p R s m args meth c mi) {pc len x1 x2 x3 : Nat} {ins : Instr} {code code' : List Ent} {L L' : Lv} {st st' : List Value} {h h' : Hp} (hdg : decode (mC mi) pc = .ok (ins, len)) (hI : ckI mi (pc, ins, len, x1, x2, x3) = true)
    (hnx : code ≠ [] → pcOf code = pc + len) (hs : sm_step mi (pc, ins, len, x1, x2, x3) code L st h = some (code', L', st', h')) (hne : code' ≠ []) (hR : Rp D b g0 g1 s h H) (hL : LRp L ls) (hLl : L.length = mL mi) (hst : ∀ v ∈ st, v.category = 1) (hS0 : va_S (fun q => b ≤ q) s.heap H locs) (kk : Kk p l env R s m args below meth c cells slots Q D b g0 g1 mi h h' L' st' code')
    (hins : ins = .iadd ∨ ins = .isub ∨ ins = .imul ∨ ins = .iand ∨ ins = .ior ∨ ins = .ishl ∨ ins = .ishr ∨ ins = .iushr ∨ ins = .idiv ∨ ins = .irem) :
    W p l env R s m args below meth c H locs cells slots Q (F0 m pc ls st) := by
  obtain ⟨hx, hb, -⟩ := C
  rcases hins with rfl | rfl | rfl | rfl | rfl | rfl | rfl | rfl | rfl | rfl
  · obtain rfl : len = 1 := Nat.eq_of_beq_eq_true hI
    obtain ⟨x, y, r, rfl, rfl, rfl, rfl, rfl⟩ := bin_spec hs
    exact lv_iadd hx hb hdg (kk.use (hnx hne) rfl rfl (List.forall_mem_cons.mpr ⟨rfl, (List.forall_mem_cons.mp (List.forall_mem_cons.mp hst).2).2⟩) hLl hR hL hS0)
  · obtain rfl : len = 1 := Nat.eq_of_beq_eq_true hI
    obtain ⟨x, y, r, rfl, rfl, rfl, rfl, rfl⟩ := bin_spec hs
    exact lv_isub hx hb hdg (kk.use (hnx hne) rfl rfl (List.forall_mem_cons.mpr ⟨rfl, (List.forall_mem_cons.mp (List.forall_mem_cons.mp hst).2).2⟩) hLl hR hL hS0)
  · obtain rfl : len = 1 := Nat.eq_of_beq_eq_true hI
    obtain ⟨x, y, r, rfl, rfl, rfl, rfl, rfl⟩ := bin_spec hs
    exact lv_imul hx hb hdg (kk.use (hnx hne) rfl rfl (List.forall_mem_cons.mpr ⟨rfl, (List.forall_mem_cons.mp (List.forall_mem_cons.mp hst).2).2⟩) hLl hR hL hS0)
  · obtain rfl : len = 1 := Nat.eq_of_beq_eq_true hI
    obtain ⟨x, y, r, rfl, rfl, rfl, rfl, rfl⟩ := bin_spec hs
    exact lv_iand hx hb hdg (kk.use (hnx hne) rfl rfl (List.forall_mem_cons.mpr ⟨rfl, (List.forall_mem_cons.mp (List.forall_mem_cons.mp hst).2).2⟩) hLl hR hL hS0)
  · obtain rfl : len = 1 := Nat.eq_of_beq_eq_true hI
    obtain ⟨x, y, r, rfl, rfl, rfl, rfl, rfl⟩ := bin_spec hs
    exact lv_ior hx hb hdg (kk.use (hnx hne) rfl rfl (List.forall_mem_cons.mpr ⟨rfl, (List.forall_mem_cons.mp (List.forall_mem_cons.mp hst).2).2⟩) hLl hR hL hS0)
  · obtain rfl : len = 1 := Nat.eq_of_beq_eq_true hI
    obtain ⟨x, y, r, rfl, rfl, rfl, rfl, rfl⟩ := bin_spec hs
    exact lv_ishl hx hb hdg (kk.use (hnx hne) rfl rfl (List.forall_mem_cons.mpr ⟨rfl, (List.forall_mem_cons.mp (List.forall_mem_cons.mp hst).2).2⟩) hLl hR hL hS0)
  · obtain rfl : len = 1 := Nat.eq_of_beq_eq_true hI
    obtain ⟨x, y, r, rfl, rfl, rfl, rfl, rfl⟩ := bin_spec hs
    exact lv_ishr hx hb hdg (kk.use (hnx hne) rfl rfl (List.forall_mem_cons.mpr ⟨rfl, (List.forall_mem_cons.mp (List.forall_mem_cons.mp hst).2).2⟩) hLl hR hL hS0)
  · obtain rfl : len = 1 := Nat.eq_of_beq_eq_true hI
    obtain ⟨x, y, r, rfl, rfl, rfl, rfl, rfl⟩ := bin_spec hs
    exact lv_iushr hx hb hdg rfl (kk.use (hnx hne) rfl rfl (List.forall_mem_cons.mpr ⟨rfl, (List.forall_mem_cons.mp (List.forall_mem_cons.mp hst).2).2⟩) hLl hR hL hS0)
  · obtain rfl : len = 1 := Nat.eq_of_beq_eq_true hI
    obtain ⟨x, y, r, rfl, hy, rfl, rfl, rfl, rfl⟩ := binD_spec hs
    exact lv_idiv hx hb hdg hy (kk.use (hnx hne) rfl rfl (List.forall_mem_cons.mpr ⟨rfl, (List.forall_mem_cons.mp (List.forall_mem_cons.mp hst).2).2⟩) hLl hR hL hS0)
  · obtain rfl : len = 1 := Nat.eq_of_beq_eq_true hI
    obtain ⟨x, y, r, rfl, hy, rfl, rfl, rfl, rfl⟩ := binD_spec hs
    exact lv_irem hx hb hdg hy (kk.use (hnx hne) rfl rfl (List.forall_mem_cons.mpr ⟨rfl, (List.forall_mem_cons.mp (List.forall_mem_cons.mp hst).2).2⟩) hLl hR hL hS0)
theorem st_cst (C : Cx D b g0 g1 p R s m args meth c mi) {pc len x1 x2 x3 : Nat} {ins : Instr} {code code' : List Ent} {L L' : Lv} {st st' : List Value} {h h' : Hp} (hdg : decode (mC mi) pc = .ok (ins, len)) (hI : ckI mi (pc, ins, len, x1, x2, x3) = true)
    (hnx : code ≠ [] → pcOf code = pc + len) (hs : sm_step mi (pc, ins, len, x1, x2, x3) code L st h = some (code', L', st', h')) (hne : code' ≠ []) (hR : Rp D b g0 g1 s h H) (hL : LRp L ls) (hLl : L.length = mL mi) (hst : ∀ v ∈ st, v.category = 1) (hS0 : va_S (fun q => b ≤ q) s.heap H locs) (kk : Kk p l env R s m args below meth c cells slots Q D b g0 g1 mi h h' L' st' code')
    (hins : (∃ k, ins = .iconst k) ∨ (∃ k, ins = .bipush k) ∨ (∃ k, ins = .sipush k) ∨ (∃ k, ins = .ldc k) ∨ (∃ k, ins = .ldc_w k) ∨ ins = .aconst_null ∨ ∃ k, ins = .getstatic k) :
    W p l env R s m args below meth c H locs cells slots Q (F0 m pc ls st) := by
  obtain ⟨hx, hb, hml, hown, hts, ⟨hK, hSp, hZ, hM⟩, -⟩ := C
  rcases hins with ⟨k, rfl⟩ | ⟨k, rfl⟩ | ⟨k, rfl⟩ | ⟨k, rfl⟩ | ⟨k, rfl⟩ | rfl | ⟨k, rfl⟩
  · simp only [ckI, Bool.and_eq_true, decide_eq_true_eq] at hI
    obtain rfl : len = 1 := Nat.eq_of_beq_eq_true hI.1
    cases hs
    exact lv_iconst hx hb hdg hI.2 (kk.use (hnx hne) rfl rfl (List.forall_mem_cons.mpr ⟨rfl, hst⟩) hLl hR hL hS0)
  · simp only [ckI, Bool.and_eq_true, decide_eq_true_eq] at hI
    obtain rfl : len = 2 := Nat.eq_of_beq_eq_true hI.1
    cases hs
    exact lv_bipush hx hb hdg hI.2 (kk.use (hnx hne) rfl rfl (List.forall_mem_cons.mpr ⟨rfl, hst⟩) hLl hR hL hS0)
  · simp only [ckI, Bool.and_eq_true, decide_eq_true_eq] at hI
    obtain rfl : len = 3 := Nat.eq_of_beq_eq_true hI.1
    cases hs
    exact lv_sipush hx hb hdg hI.2 (kk.use (hnx hne) rfl rfl (List.forall_mem_cons.mpr ⟨rfl, hst⟩) hLl hR hL hS0)
  · simp only [ckI, Bool.and_eq_true] at hI
    obtain rfl : len = 2 := Nat.eq_of_beq_eq_true hI.1
    rcases (show x3 = 0 ∨ x3 = 1 ∨ ∃ n, x3 = n + 2 from by rcases x3 with _ | _ | n <;> simp) with rfl | rfl | ⟨n, rfl⟩
    · have h2 := hI.2
      simp only [decide_eq_true_eq] at h2
      cases hs
      have hw := hts _ (tK_get h2)
      rw [own_owN] at hw
      exact lv_ldc hx hb hown hw hdg (kk.use (hnx hne) rfl rfl (List.forall_mem_cons.mpr ⟨rfl, hst⟩) hLl hR hL hS0)
    · have h2 := hI.2
      simp only [decide_eq_true_eq] at h2
      cases hs
      have hw := hts _ (tC_get h2)
      rw [own_owN] at hw
      have K := kk.use (hnx hne) rfl rfl (List.forall_mem_cons.mpr ⟨rfl, hst⟩) hLl hR hL hS0
      rw [hR.2.2.2.2.2] at K
      exact va_ldcM hx hb hown hw hM hdg K
    · exact absurd hI.2 (by simp)
  · simp only [ckI, Bool.and_eq_true, decide_eq_true_eq] at hI
    obtain rfl : len = 3 := Nat.eq_of_beq_eq_true hI.1
    cases hs
    have hw := hts _ (tK_get hI.2)
    rw [own_owN] at hw
    exact lv_ldcw hx hb hown hw hdg (kk.use (hnx hne) rfl rfl (List.forall_mem_cons.mpr ⟨rfl, hst⟩) hLl hR hL hS0)
  · obtain rfl : len = 1 := Nat.eq_of_beq_eq_true hI
    cases hs
    exact lv_null hx hb hdg (kk.use (hnx hne) rfl rfl (List.forall_mem_cons.mpr ⟨rfl, hst⟩) hLl hR hL hS0)
  · simp only [ckI, Bool.and_eq_true, decide_eq_true_eq] at hI
    obtain rfl : len = 3 := Nat.eq_of_beq_eq_true hI.1.1
    obtain rfl : k = 39 := Nat.eq_of_beq_eq_true hI.1.2
    cases hs
    have K := kk.use (hnx hne) rfl rfl (List.forall_mem_cons.mpr ⟨rfl, hst⟩) hLl hR hL hS0
    rw [hR.2.2.2.2.1] at K
    exact va_gets hx hb hZ hS0 hown (by rw [hI.2]; exact hts _ w_gS) (fun x h => h) hdg K
theorem st_stk (C : Cx D b g0 g1 p R s m args meth c mi) {pc len x1 x2 x3 : Nat} {ins : Instr} {code code' : List Ent} {L L' : Lv} {st st' : List Value} {h h' : Hp} (hdg : decode (mC mi) pc = .ok (ins, len)) (hI : ckI mi (pc, ins, len, x1, x2, x3) = true)
    (hnx : code ≠ [] → pcOf code = pc + len) (hs : sm_step mi (pc, ins, len, x1, x2, x3) code L st h = some (code', L', st', h')) (hne : code' ≠ []) (hR : Rp D b g0 g1 s h H) (hL : LRp L ls) (hLl : L.length = mL mi) (hst : ∀ v ∈ st, v.category = 1) (hS0 : va_S (fun q => b ≤ q) s.heap H locs) (kk : Kk p l env R s m args below meth c cells slots Q D b g0 g1 mi h h' L' st' code')
    (hins : ins = .dup ∨ ins = .dup_x1 ∨ ins = .dup2 ∨ ins = .pop) :
    W p l env R s m args below meth c H locs cells slots Q (F0 m pc ls st) := by
  obtain ⟨hx, hb, -⟩ := C
  rcases hins with rfl | rfl | rfl | rfl
  · obtain rfl : len = 1 := Nat.eq_of_beq_eq_true hI
    simp only [sm_step] at hs
    split at hs
    · rename_i v r
      cases hs
      obtain ⟨c1, c2⟩ := List.forall_mem_cons.mp hst
      exact lv_dup hx hb hdg c1 (kk.use (hnx hne) rfl rfl (List.forall_mem_cons.mpr ⟨c1, hst⟩) hLl hR hL hS0)
    · cases hs
  · obtain rfl : len = 1 := Nat.eq_of_beq_eq_true hI
    simp only [sm_step] at hs
    split at hs
    · rename_i v w r
      cases hs
      obtain ⟨c1, c2⟩ := List.forall_mem_cons.mp hst
      obtain ⟨c3, c4⟩ := List.forall_mem_cons.mp c2
      exact lv_dup_x1 hx hb hdg c1 c3 (kk.use (hnx hne) rfl rfl (List.forall_mem_cons.mpr ⟨c1, List.forall_mem_cons.mpr ⟨c3, List.forall_mem_cons.mpr ⟨c1, c4⟩⟩⟩) hLl hR hL hS0)
    · cases hs
  · obtain rfl : len = 1 := Nat.eq_of_beq_eq_true hI
    simp only [sm_step] at hs
    split at hs
    · rename_i v w r
      cases hs
      obtain ⟨c1, c2⟩ := List.forall_mem_cons.mp hst
      obtain ⟨c3, c4⟩ := List.forall_mem_cons.mp c2
      exact lv_dup2_11 hx hb hdg c1 c3 (kk.use (hnx hne) rfl rfl (List.forall_mem_cons.mpr ⟨c1, List.forall_mem_cons.mpr ⟨c3, hst⟩⟩) hLl hR hL hS0)
    · cases hs
  · obtain rfl : len = 1 := Nat.eq_of_beq_eq_true hI
    simp only [sm_step] at hs
    split at hs
    · rename_i v r
      cases hs
      obtain ⟨c1, c2⟩ := List.forall_mem_cons.mp hst
      exact lv_pop hx hb hdg c1 (kk.use (hnx hne) rfl rfl c2 hLl hR hL hS0)
    · cases hs
theorem st_br (C : Cx D b g0 g1 p R s m args meth c mi) {pc len x1 x2 x3 : Nat} {ins : Instr} {code code' : List Ent} {L L' : Lv} {st st' : List Value} {h h' : Hp} (hdg : decode (mC mi) pc = .ok (ins, len)) (hI : ckI mi (pc, ins, len, x1, x2, x3) = true)
    (hnx : code ≠ [] → pcOf code = pc + len) (hs : sm_step mi (pc, ins, len, x1, x2, x3) code L st h = some (code', L', st', h')) (hne : code' ≠ []) (hR : Rp D b g0 g1 s h H) (hL : LRp L ls) (hLl : L.length = mL mi) (hst : ∀ v ∈ st, v.category = 1) (hS0 : va_S (fun q => b ≤ q) s.heap H locs) (kk : Kk p l env R s m args below meth c cells slots Q D b g0 g1 mi h h' L' st' code')
    (hins : (∃ k o, ins = .ifCond k o) ∨ (∃ k o, ins = .if_icmp k o)) :
    W p l env R s m args below meth c H locs cells slots Q (F0 m pc ls st) := by
  obtain ⟨hx, hb, -⟩ := C
  rcases hins with ⟨k, o, rfl⟩ | ⟨k, o, rfl⟩
  · simp only [ckI, Bool.and_eq_true, decide_eq_true_eq] at hI
    obtain rfl : len = 3 := Nat.eq_of_beq_eq_true hI.1
    simp only [sm_step] at hs
    split at hs
    · rename_i v r
      split at hs
      · rename_i x hxx
        have ev := sm_in_eq hxx
        subst ev
        have hc2 := (List.forall_mem_cons.mp hst).2
        cases k with
        | eq =>
          refine lv_if_eq (tgt := x1) hx hb hdg hI.2 (fun cc => ?_) (fun cc => ?_)
          · have cc2 : sm_cmp .eq x 0 = true := by rw [cmp_eq]; exact cc
            rw [if_pos cc2] at hs
            cases hs
            exact kk.use (seek_ne hne) rfl rfl hc2 hLl hR hL hS0
          · have cc2 : ¬ sm_cmp .eq x 0 = true := by rw [cmp_eq]; exact cc
            rw [if_neg cc2] at hs
            cases hs
            exact kk.use (hnx hne) rfl rfl hc2 hLl hR hL hS0
        | ne =>
          refine lv_if_ne (tgt := x1) hx hb hdg hI.2 (fun cc => ?_) (fun cc => ?_)
          · have cc2 : sm_cmp .ne x 0 = true := by rw [cmp_ne]; exact cc
            rw [if_pos cc2] at hs
            cases hs
            exact kk.use (seek_ne hne) rfl rfl hc2 hLl hR hL hS0
          · have cc2 : ¬ sm_cmp .ne x 0 = true := by rw [cmp_ne]; exact fun z => z cc
            rw [if_neg cc2] at hs
            cases hs
            exact kk.use (hnx hne) rfl rfl hc2 hLl hR hL hS0
        | lt =>
          refine lv_if_lt (tgt := x1) hx hb hdg hI.2 (fun cc => ?_) (fun cc => ?_)
          · have cc2 : sm_cmp .lt x 0 = true := by rw [cmp_lt]; exact cc
            rw [if_pos cc2] at hs
            cases hs
            exact kk.use (seek_ne hne) rfl rfl hc2 hLl hR hL hS0
          · have cc2 : ¬ sm_cmp .lt x 0 = true := by rw [cmp_lt]; exact cc
            rw [if_neg cc2] at hs
            cases hs
            exact kk.use (hnx hne) rfl rfl hc2 hLl hR hL hS0
        | ge =>
          refine lv_if_ge (tgt := x1) hx hb hdg hI.2 (fun cc => ?_) (fun cc => ?_)
          · have cc2 : sm_cmp .ge x 0 = true := by rw [cmp_ge]; exact cc
            rw [if_pos cc2] at hs
            cases hs
            exact kk.use (seek_ne hne) rfl rfl hc2 hLl hR hL hS0
          · have cc2 : ¬ sm_cmp .ge x 0 = true := by rw [cmp_ge]; exact cc
            rw [if_neg cc2] at hs
            cases hs
            exact kk.use (hnx hne) rfl rfl hc2 hLl hR hL hS0
        | gt =>
          refine lv_if_gt (tgt := x1) hx hb hdg hI.2 (fun cc => ?_) (fun cc => ?_)
          · have cc2 : sm_cmp .gt x 0 = true := by rw [cmp_gt]; exact cc
            rw [if_pos cc2] at hs
            cases hs
            exact kk.use (seek_ne hne) rfl rfl hc2 hLl hR hL hS0
          · have cc2 : ¬ sm_cmp .gt x 0 = true := by rw [cmp_gt]; exact cc
            rw [if_neg cc2] at hs
            cases hs
            exact kk.use (hnx hne) rfl rfl hc2 hLl hR hL hS0
        | le =>
          refine lv_if_le (tgt := x1) hx hb hdg hI.2 (fun cc => ?_) (fun cc => ?_)
          · have cc2 : sm_cmp .le x 0 = true := by rw [cmp_le]; exact cc
            rw [if_pos cc2] at hs
            cases hs
            exact kk.use (seek_ne hne) rfl rfl hc2 hLl hR hL hS0
          · have cc2 : ¬ sm_cmp .le x 0 = true := by rw [cmp_le]; exact cc
            rw [if_neg cc2] at hs
            cases hs
            exact kk.use (hnx hne) rfl rfl hc2 hLl hR hL hS0
      · cases hs
    · cases hs
  · simp only [ckI, Bool.and_eq_true, decide_eq_true_eq] at hI
    obtain rfl : len = 3 := Nat.eq_of_beq_eq_true hI.1
    simp only [sm_step] at hs
    split at hs
    · rename_i v w r
      split at hs
      · rename_i y x hyy hxx
        have ev := sm_in_eq hxx
        have ew := sm_in_eq hyy
        subst ev
        subst ew
        have hc2 := (List.forall_mem_cons.mp (List.forall_mem_cons.mp hst).2).2
        cases k with
        | eq =>
          refine lv_icmp_eq (tgt := x1) hx hb hdg hI.2 (fun cc => ?_) (fun cc => ?_)
          · have cc2 : sm_cmp .eq x y = true := by rw [cmp_eq]; exact cc
            rw [if_pos cc2] at hs
            cases hs
            exact kk.use (seek_ne hne) rfl rfl hc2 hLl hR hL hS0
          · have cc2 : ¬ sm_cmp .eq x y = true := by rw [cmp_eq]; exact cc
            rw [if_neg cc2] at hs
            cases hs
            exact kk.use (hnx hne) rfl rfl hc2 hLl hR hL hS0
        | ne =>
          refine lv_icmp_ne (tgt := x1) hx hb hdg hI.2 (fun cc => ?_) (fun cc => ?_)
          · have cc2 : sm_cmp .ne x y = true := by rw [cmp_ne]; exact cc
            rw [if_pos cc2] at hs
            cases hs
            exact kk.use (seek_ne hne) rfl rfl hc2 hLl hR hL hS0
          · have cc2 : ¬ sm_cmp .ne x y = true := by rw [cmp_ne]; exact fun z => z cc
            rw [if_neg cc2] at hs
            cases hs
            exact kk.use (hnx hne) rfl rfl hc2 hLl hR hL hS0
        | lt =>
          refine lv_icmp_lt (tgt := x1) hx hb hdg hI.2 (fun cc => ?_) (fun cc => ?_)
          · have cc2 : sm_cmp .lt x y = true := by rw [cmp_lt]; exact cc
            rw [if_pos cc2] at hs
            cases hs
            exact kk.use (seek_ne hne) rfl rfl hc2 hLl hR hL hS0
          · have cc2 : ¬ sm_cmp .lt x y = true := by rw [cmp_lt]; exact cc
            rw [if_neg cc2] at hs
            cases hs
            exact kk.use (hnx hne) rfl rfl hc2 hLl hR hL hS0
        | ge =>
          refine lv_icmp_ge (tgt := x1) hx hb hdg hI.2 (fun cc => ?_) (fun cc => ?_)
          · have cc2 : sm_cmp .ge x y = true := by rw [cmp_ge]; exact cc
            rw [if_pos cc2] at hs
            cases hs
            exact kk.use (seek_ne hne) rfl rfl hc2 hLl hR hL hS0
          · have cc2 : ¬ sm_cmp .ge x y = true := by rw [cmp_ge]; exact cc
            rw [if_neg cc2] at hs
            cases hs
            exact kk.use (hnx hne) rfl rfl hc2 hLl hR hL hS0
        | gt =>
          refine lv_icmp_gt (tgt := x1) hx hb hdg hI.2 (fun cc => ?_) (fun cc => ?_)
          · have cc2 : sm_cmp .gt x y = true := by rw [cmp_gt]; exact cc
            rw [if_pos cc2] at hs
            cases hs
            exact kk.use (seek_ne hne) rfl rfl hc2 hLl hR hL hS0
          · have cc2 : ¬ sm_cmp .gt x y = true := by rw [cmp_gt]; exact cc
            rw [if_neg cc2] at hs
            cases hs
            exact kk.use (hnx hne) rfl rfl hc2 hLl hR hL hS0
        | le =>
          refine lv_icmp_le (tgt := x1) hx hb hdg hI.2 (fun cc => ?_) (fun cc => ?_)
          · have cc2 : sm_cmp .le x y = true := by rw [cmp_le]; exact cc
            rw [if_pos cc2] at hs
            cases hs
            exact kk.use (seek_ne hne) rfl rfl hc2 hLl hR hL hS0
          · have cc2 : ¬ sm_cmp .le x y = true := by rw [cmp_le]; exact cc
            rw [if_neg cc2] at hs
            cases hs
            exact kk.use (hnx hne) rfl rfl hc2 hLl hR hL hS0
      · cases hs
    · cases hs
theorem st_jmp (C : Cx D b g0 g1 p R s m args meth c mi) {pc len x1 x2 x3 : Nat} {ins : Instr} {code code' : List Ent} {L L' : Lv} {st st' : List Value} {h h' : Hp} (hdg : decode (mC mi) pc = .ok (ins, len)) (hI : ckI mi (pc, ins, len, x1, x2, x3) = true)
    (hnx : code ≠ [] → pcOf code = pc + len) (hs : sm_step mi (pc, ins, len, x1, x2, x3) code L st h = some (code', L', st', h')) (hne : code' ≠ []) (hR : Rp D b g0 g1 s h H) (hL : LRp L ls) (hLl : L.length = mL mi) (hst : ∀ v ∈ st, v.category = 1) (hS0 : va_S (fun q => b ≤ q) s.heap H locs) (kk : Kk p l env R s m args below meth c cells slots Q D b g0 g1 mi h h' L' st' code')
    (hins : (∃ k o, ins = .if_acmp k o) ∨ (∃ o, ins = .ifnull o) ∨ (∃ o, ins = .ifnonnull o) ∨ (∃ o, ins = .goto o) ∨ (∃ d lo hi offs, ins = .tableswitch d lo hi offs)) :
    W p l env R s m args below meth c H locs cells slots Q (F0 m pc ls st) := by
  obtain ⟨hx, hb, -⟩ := C
  rcases hins with ⟨k, o, rfl⟩ | ⟨o, rfl⟩ | ⟨o, rfl⟩ | ⟨o, rfl⟩ | ⟨d, lo, hi, offs, rfl⟩
  · simp only [ckI, Bool.and_eq_true, decide_eq_true_eq] at hI
    obtain rfl : len = 3 := Nat.eq_of_beq_eq_true hI.1
    simp only [sm_step] at hs
    split at hs
    · rename_i v w r
      split at hs
      · rename_i y x hyy hxx
        have ev := sm_rf_eq hxx
        have ew := sm_rf_eq hyy
        subst ev
        subst ew
        have hc2 := (List.forall_mem_cons.mp (List.forall_mem_cons.mp hst).2).2
        cases k with
        | eq =>
          refine lv_acmp_eq (tgt := x1) hx hb hdg hI.2 (fun cc => ?_) (fun cc => ?_)
          · simp only [if_pos cc] at hs
            cases hs
            exact kk.use (seek_ne hne) rfl rfl hc2 hLl hR hL hS0
          · simp only [if_neg cc] at hs
            cases hs
            exact kk.use (hnx hne) rfl rfl hc2 hLl hR hL hS0
        | ne =>
          refine lv_acmp_ne (tgt := x1) hx hb hdg hI.2 (fun cc => ?_) (fun cc => ?_)
          · simp only [if_neg cc] at hs
            cases hs
            exact kk.use (seek_ne hne) rfl rfl hc2 hLl hR hL hS0
          · simp only [if_pos cc] at hs
            cases hs
            exact kk.use (hnx hne) rfl rfl hc2 hLl hR hL hS0
      · cases hs
    · cases hs
  · simp only [ckI, Bool.and_eq_true, decide_eq_true_eq] at hI
    obtain rfl : len = 3 := Nat.eq_of_beq_eq_true hI.1
    simp only [sm_step] at hs
    split at hs
    · rename_i v r
      have hc2 := (List.forall_mem_cons.mp hst).2
      split at hs
      · rename_i x hxx
        have ev := sm_rf_eq hxx
        subst ev
        cases hs
        exact lv_ifnull hx hb hdg (kk.use (hnx hne) rfl rfl hc2 hLl hR hL hS0)
      · rename_i hxx
        have ev := sm_rf_eq hxx
        subst ev
        cases hs
        exact lv_ifnullN hx hb hdg hI.2 (kk.use (seek_ne hne) rfl rfl hc2 hLl hR hL hS0)
      · cases hs
    · cases hs
  · simp only [ckI, Bool.and_eq_true, decide_eq_true_eq] at hI
    obtain rfl : len = 3 := Nat.eq_of_beq_eq_true hI.1
    simp only [sm_step] at hs
    split at hs
    · rename_i v r
      have hc2 := (List.forall_mem_cons.mp hst).2
      split at hs
      · rename_i x hxx
        have ev := sm_rf_eq hxx
        subst ev
        cases hs
        exact lv_ifnonnull hx hb hdg hI.2 (kk.use (seek_ne hne) rfl rfl hc2 hLl hR hL hS0)
      · rename_i hxx
        have ev := sm_rf_eq hxx
        subst ev
        cases hs
        exact lv_ifnonnullN hx hb hdg (kk.use (hnx hne) rfl rfl hc2 hLl hR hL hS0)
      · cases hs
    · cases hs
  · simp only [ckI, Bool.and_eq_true, decide_eq_true_eq] at hI
    obtain rfl : len = 3 := Nat.eq_of_beq_eq_true hI.1
    cases hs
    exact lv_goto hx hb hdg hI.2 (kk.use (seek_ne hne) rfl rfl hst hLl hR hL hS0)
  · simp only [ckI, Bool.and_eq_true, decide_eq_true_eq, List.all_eq_true] at hI
    simp only [sm_step] at hs
    split at hs
    · rename_i v r
      have hc2 := (List.forall_mem_cons.mp hst).2
      split at hs
      · rename_i x hxx
        have ev := sm_in_eq hxx
        subst ev
        by_cases hc : x.toInt < lo ∨ hi < x.toInt
        · unfold sm_tab at hs
          simp only [if_pos hc] at hs
          cases hs
          exact lv_tableOut hx hb hdg hc (by rw [Int.toNat_of_nonneg hI.1]) (kk.use (seek_ne hne) rfl rfl hc2 hLl hR hL hS0)
        · have hc1 : ¬ x.toInt < lo := fun z => hc (Or.inl z)
          have hc3 : ¬ hi < x.toInt := fun z => hc (Or.inr z)
          unfold sm_tab at hs
          simp only [if_neg hc] at hs
          cases ho : offs[(x.toInt - lo).toNat]? with
          | none =>
            rw [ho] at hs
            cases hs
          | some off =>
            rw [ho] at hs
            cases hs
            have hm : off ∈ offs.toList := by
              rw [← Array.getElem?_toList] at ho
              exact List.mem_of_getElem? ho
            exact lv_tableIn hx hb hdg hc1 hc3 ho (by rw [Int.toNat_of_nonneg (hI.2 off hm)]) (kk.use (seek_ne hne) rfl rfl hc2 hLl hR hL hS0)
      · cases hs
    · cases hs
end STEP2
end
section
section STEP3
variable {p : Program} {l : Launch} {env : Env} {R : Room} {s : State} {m : MethodId} {args : Array Value} {below : List Frame} {meth : Method} {c : Code} {H : Heap} {locs : List Loc} {cells slots : Nat} {Q : State → Prop}
variable {ls : Array Slot} {D : va_G} {b g0 g1 : Nat} {mi : MI}

theorem Kk.new {h h' : Hp} {L' : Lv} {st' : List Value} {code' : List Ent} {pc' n : Nat} (kk : Kk p l env R s m args below meth c cells slots Q D b g0 g1 mi h h' L' st' code') (hpc : pcOf code' = pc') (hz : sz h' = sz h + 1) (hsl : sl h' = sl h + n) (hcat : ∀ v ∈ st', v.category = 1) (hlen : L'.length = mL mi) {H1 : Heap} {locs1 : List Loc} {ls1 : Array Slot} (hR : Rp D b g0 g1 s h' H1) (hL : LRp L' ls1) (hS : va_S (fun q => b ≤ q) s.heap H1 locs1) : W p l env R s m args below meth c H1 locs1 (cells + 1) (slots + n) Q (F0 m pc' ls1 st') := by
  have := kk H1 locs1 ls1 hR hL hS hcat hlen
  rw [hz, hsl, Nat.add_sub_cancel_left, Nat.add_sub_cancel_left, hpc] at this
  exact this
theorem vO_wfI {h : Hp} {c k a : Nat} {x : Int32} (hc : cty c k ≠ 1) : vO (wfI h (32 * c + k) a x) c k a = .int x := by
  unfold vO
  rw [if_neg hc]
  congr 1
  exact if_pos ⟨rfl, rfl⟩
theorem vO_wfR {h : Hp} {c k a : Nat} {x : Option Nat} (hc : cty c k = 1) : vO (wfR h (32 * c + k) a x) c k a = va_rf x := by
  unfold vO
  rw [if_pos hc]
  congr 1
  exact if_pos ⟨rfl, rfl⟩
theorem cty_0 {c k : Nat} (h : cty c k = 0) : wty c k = .int := by
  unfold cty at h
  cases hw : wty c k <;> rw [hw] at h <;> first | rfl | cases h
theorem cty_2 {c k : Nat} (h : cty c k = 2) : wty c k = .boolean := by
  unfold cty at h
  cases hw : wty c k <;> rw [hw] at h <;> first | rfl | cases h
theorem cty_1 {c k : Nat} (h : cty c k = 1) (r : Option Nat) : narrow (wty c k) (va_rf r) = va_rf r ∧ fits (wty c k) (va_rf r) = true := by
  unfold cty at h
  cases hw : wty c k <;> rw [hw] at h <;> first | (cases r <;> exact ⟨rfl, rfl⟩) | cases h
theorem st_fld (C : Cx D b g0 g1 p R s m args meth c mi) {pc len x1 x2 x3 : Nat} {ins : Instr} {code code' : List Ent} {L L' : Lv} {st st' : List Value} {h h' : Hp} (hdg : decode (mC mi) pc = .ok (ins, len)) (hI : ckI mi (pc, ins, len, x1, x2, x3) = true)
    (hnx : code ≠ [] → pcOf code = pc + len) (hs : sm_step mi (pc, ins, len, x1, x2, x3) code L st h = some (code', L', st', h')) (hne : code' ≠ []) (hR : Rp D b g0 g1 s h H) (hL : LRp L ls) (hLl : L.length = mL mi) (hst : ∀ v ∈ st, v.category = 1) (hS0 : va_S (fun q => b ≤ q) s.heap H locs) (kk : Kk p l env R s m args below meth c cells slots Q D b g0 g1 mi h h' L' st' code')
    (hins : (∃ k, ins = .getfield k) ∨ (∃ k, ins = .putfield k)) :
    W p l env R s m args below meth c H locs cells slots Q (F0 m pc ls st) := by
  rcases hins with ⟨k, rfl⟩ | ⟨k, rfl⟩
  · simp only [ckI, Bool.and_eq_true, decide_eq_true_eq] at hI
    obtain ⟨⟨i1, i2⟩, i3⟩ := hI
    obtain rfl : len = 3 := Nat.eq_of_beq_eq_true i1
    have i3 := Nat.eq_of_beq_eq_true i3
    obtain ⟨q, ref, q1, q2, q3, q4, -, -⟩ := tF_get i2
    have hfid : 32 * (x1 - 1) + (x2 - 32 * (x1 - 1)) = x2 := by omega
    simp only [sm_step] at hs
    split at hs
    · rename_i v r
      have hc2 := (List.forall_mem_cons.mp hst).2
      split at hs
      · rename_i a ha
        have ev := sm_rf_eq ha
        subst ev
        split at hs
        · rename_i hk
          refine sr_get C hR i2 hk hdg ?_
          by_cases h1 : x3 = 1
          · subst h1
            simp only at hs
            cases hs
            have K := kk.use (hnx hne) rfl rfl (List.forall_mem_cons.mpr ⟨cat_rf _, hc2⟩) hLl hR hL hS0
            have ev : vO h (x1 - 1) (x2 - 32 * (x1 - 1)) a = va_rf (fR h x2 a) := by
              unfold vO
              rw [if_pos i3.symm, hfid]
            rw [ev]
            exact K
          · have hs : some (code, L, Value.int (fI h x2 a) :: r, h) = some (code', L', st', h') := by
              rcases x3 with _ | _ | n
              · exact hs
              · exact absurd rfl h1
              · exact hs
            cases hs
            have K := kk.use (hnx hne) rfl rfl (List.forall_mem_cons.mpr ⟨rfl, hc2⟩) hLl hR hL hS0
            have ev : vO h (x1 - 1) (x2 - 32 * (x1 - 1)) a = .int (fI h x2 a) := by
              unfold vO
              rw [if_neg (by rw [← i3]; exact h1), hfid]
            rw [ev]
            exact K
        · cases hs
      · cases hs
    · cases hs
  · simp only [ckI, Bool.and_eq_true, decide_eq_true_eq] at hI
    obtain ⟨⟨⟨i1, i2⟩, i3⟩, i4⟩ := hI
    obtain rfl : len = 3 := Nat.eq_of_beq_eq_true i1
    have i3 := Nat.eq_of_beq_eq_true i3
    obtain ⟨q, ref, q1, q2, q3, q4, -, -⟩ := tF_get i2
    have hfid : 32 * (x1 - 1) + (x2 - 32 * (x1 - 1)) = x2 := by omega
    obtain ⟨-, w2, -⟩ := wc_facts q1
    obtain ⟨-, t2, -⟩ := w2 _ q4
    simp only [sm_step] at hs
    split at hs
    · rename_i v w r
      have hc2 := (List.forall_mem_cons.mp (List.forall_mem_cons.mp hst).2).2
      split at hs
      · rename_i a ha
        have ev := sm_rf_eq ha
        subst ev
        split at hs
        · rename_i hk
          rcases (show x3 = 0 ∨ x3 = 1 ∨ x3 = 2 from by omega) with rfl | rfl | rfl
          · simp only at hs
            split at hs
            · rename_i x hx
              have ew := sm_in_eq hx
              subst ew
              cases hs
              have hty := cty_0 i3.symm
              refine sr_put C hR hS0 i2 hk i4 hdg (put1_I h x2 a x) ?_ (by rw [hty]; rfl) (by rw [hty]; rfl) (fun H1 locs1 hR1 hS1 => kk.use (hnx hne) rfl rfl hc2 hLl hR1 hL hS1)
              conv => lhs; rw [← hfid]
              rw [show 32 * (x1 - 1) + (x2 - 32 * (x1 - 1)) - 32 * (x1 - 1) = x2 - 32 * (x1 - 1) by omega]
              exact vO_wfI (by omega)
            · cases hs
          · simp only at hs
            split at hs
            · rename_i x hx
              have ew := sm_rf_eq hx
              subst ew
              cases hs
              refine sr_put C hR hS0 i2 hk i4 hdg (put1_R h x2 a x) ?_ (cty_1 i3.symm x).1 (cty_1 i3.symm x).2 (fun H1 locs1 hR1 hS1 => kk.use (hnx hne) rfl rfl hc2 hLl hR1 hL hS1)
              conv => lhs; rw [← hfid]
              rw [show 32 * (x1 - 1) + (x2 - 32 * (x1 - 1)) - 32 * (x1 - 1) = x2 - 32 * (x1 - 1) by omega]
              exact vO_wfR i3.symm
            · cases hs
          · simp only at hs
            split at hs
            · rename_i x hx
              have ew := sm_in_eq hx
              subst ew
              split at hs
              · rename_i h01
                cases hs
                have hty := cty_2 i3.symm
                refine sr_put C hR hS0 i2 hk i4 hdg (put1_I h x2 a x) ?_ (by rw [hty]; rcases h01 with rfl | rfl <;> rfl) (by rw [hty]; rcases h01 with rfl | rfl <;> rfl) (fun H1 locs1 hR1 hS1 => kk.use (hnx hne) rfl rfl hc2 hLl hR1 hL hS1)
                conv => lhs; rw [← hfid]
                rw [show 32 * (x1 - 1) + (x2 - 32 * (x1 - 1)) - 32 * (x1 - 1) = x2 - 32 * (x1 - 1) by omega]
                exact vO_wfI (by omega)
              · cases hs
            · cases hs
        · cases hs
      · cases hs
    · cases hs
theorem st_new (C : Cx D b g0 g1 p R s m args meth c mi) {pc len x1 x2 x3 : Nat} {ins : Instr} {code code' : List Ent} {L L' : Lv} {st st' : List Value} {h h' : Hp} (hdg : decode (mC mi) pc = .ok (ins, len)) (hI : ckI mi (pc, ins, len, x1, x2, x3) = true)
    (hnx : code ≠ [] → pcOf code = pc + len) (hs : sm_step mi (pc, ins, len, x1, x2, x3) code L st h = some (code', L', st', h')) (hne : code' ≠ []) (hR : Rp D b g0 g1 s h H) (hL : LRp L ls) (hLl : L.length = mL mi) (hst : ∀ v ∈ st, v.category = 1) (hS0 : va_S (fun q => b ≤ q) s.heap H locs) (kk : Kk p l env R s m args below meth c cells slots Q D b g0 g1 mi h h' L' st' code') (hcells : cells + (sz h' - sz h) ≤ R.cells) (hslots : slots + (sl h' - sl h) ≤ R.slots)
    (hins : (∃ k, ins = .new k) ∨ (∃ t, ins = .newarray t) ∨ (∃ k, ins = .anewarray k)) :
    W p l env R s m args below meth c H locs cells slots Q (F0 m pc ls st) := by
  rcases hins with ⟨k, rfl⟩ | ⟨t, rfl⟩ | ⟨k, rfl⟩
  · simp only [ckI, Bool.and_eq_true] at hI
    obtain ⟨i1, i2⟩ := hI
    obtain rfl : len = 3 := Nat.eq_of_beq_eq_true i1
    cases hq : wc[x1 - 1]? with
    | none => rw [hq] at i2; cases i2
    | some q =>
      rw [hq] at i2
      simp only [Bool.and_eq_true, decide_eq_true_eq] at i2
      obtain ⟨⟨i3, i4⟩, i5⟩ := i2
      cases hs
      have e1 : sz (hnew h x1 0 x2) - sz h = 1 := Nat.add_sub_cancel_left _ _
      have e2 : sl (hnew h x1 0 x2) - sl h = x2 := Nat.add_sub_cancel_left _ _
      rw [e1] at hcells
      rw [e2] at hslots
      exact sr_new C hR hS0 i5 hq (Nat.le_of_ble_eq_true i3) (Nat.eq_of_beq_eq_true i4) hdg hcells hslots (fun H1 hR1 hS1 => kk.new (hnx hne) rfl rfl (List.forall_mem_cons.mpr ⟨rfl, hst⟩) hLl hR1 hL hS1)
  · simp only [ckI, Bool.and_eq_true] at hI
    obtain ⟨i1, i2⟩ := hI
    obtain rfl : len = 2 := Nat.eq_of_beq_eq_true i1
    simp only [sm_step] at hs
    split at hs
    · rename_i v r
      split at hs
      · rename_i x hx
        have ev := sm_in_eq hx
        subst ev
        split at hs
        · rename_i n hn
          cases hs
          have e1 : sz (hnew h x1 n n) - sz h = 1 := Nat.add_sub_cancel_left _ _
          have e2 : sl (hnew h x1 n n) - sl h = n := Nat.add_sub_cancel_left _ _
          rw [e1] at hcells
          rw [e2] at hslots
          refine sr_newa C hR hS0 ?_ hn hdg hcells hslots (fun H1 hR1 hS1 => kk.new (hnx hne) rfl rfl (List.forall_mem_cons.mpr ⟨rfl, (List.forall_mem_cons.mp hst).2⟩) hLl hR1 hL hS1)
          cases t <;> first | exact Or.inl ⟨rfl, Nat.eq_of_beq_eq_true i2⟩ | exact Or.inr ⟨rfl, Nat.eq_of_beq_eq_true i2⟩ | cases i2
        · cases hs
      · cases hs
    · cases hs
  · simp only [ckI, Bool.and_eq_true] at hI
    obtain ⟨⟨⟨i1, i2⟩, i3⟩, i4⟩ := hI
    obtain rfl : len = 3 := Nat.eq_of_beq_eq_true i1
    have i2 := Nat.le_of_ble_eq_true i2
    have i3 := Nat.le_of_ble_eq_true i3
    have hC : Cond.classLink (owN mi) k (anm x1) ∈ bw := by
      rcases (show x1 = 22 ∨ x1 = 23 ∨ x1 = 24 ∨ x1 = 25 ∨ x1 = 26 ∨ x1 = 27 by omega) with rfl | rfl | rfl | rfl | rfl | rfl <;> (simp only [decide_eq_true_eq] at i4; exact tC_get i4)
    simp only [sm_step] at hs
    split at hs
    · rename_i v r
      split at hs
      · rename_i x hx
        have ev := sm_in_eq hx
        subst ev
        split at hs
        · rename_i n hn
          cases hs
          have e1 : sz (hnew h x1 n n) - sz h = 1 := Nat.add_sub_cancel_left _ _
          have e2 : sl (hnew h x1 n n) - sl h = n := Nat.add_sub_cancel_left _ _
          rw [e1] at hcells
          rw [e2] at hslots
          exact sr_newq C hR hS0 i2 i3 hC hn hdg hcells hslots (fun H1 hR1 hS1 => kk.new (hnx hne) rfl rfl (List.forall_mem_cons.mpr ⟨rfl, (List.forall_mem_cons.mp hst).2⟩) hLl hR1 hL hS1)
        · cases hs
      · cases hs
    · cases hs
theorem st_arr (C : Cx D b g0 g1 p R s m args meth c mi) {pc len x1 x2 x3 : Nat} {ins : Instr} {code code' : List Ent} {L L' : Lv} {st st' : List Value} {h h' : Hp} (hdg : decode (mC mi) pc = .ok (ins, len)) (hI : ckI mi (pc, ins, len, x1, x2, x3) = true)
    (hnx : code ≠ [] → pcOf code = pc + len) (hs : sm_step mi (pc, ins, len, x1, x2, x3) code L st h = some (code', L', st', h')) (hne : code' ≠ []) (hR : Rp D b g0 g1 s h H) (hL : LRp L ls) (hLl : L.length = mL mi) (hst : ∀ v ∈ st, v.category = 1) (hS0 : va_S (fun q => b ≤ q) s.heap H locs) (kk : Kk p l env R s m args below meth c cells slots Q D b g0 g1 mi h h' L' st' code')
    (hins : ins = .arraylength ∨ ins = .iaload ∨ ins = .baload ∨ ins = .aaload ∨ ins = .iastore ∨ ins = .bastore ∨ ins = .aastore ∨ ∃ k, ins = .checkcast k) :
    W p l env R s m args below meth c H locs cells slots Q (F0 m pc ls st) := by
  rcases hins with rfl | rfl | rfl | rfl | rfl | rfl | rfl | ⟨k, rfl⟩
  · obtain rfl : len = 1 := Nat.eq_of_beq_eq_true hI
    simp only [sm_step] at hs
    split at hs
    · rename_i v r
      have hc2 := (List.forall_mem_cons.mp hst).2
      split at hs
      · rename_i a ha
        have ev := sm_rf_eq ha
        subst ev
        split at hs
        · rename_i hk
          cases hs
          exact sr_alen C hR hk hdg (kk.use (hnx hne) rfl rfl (List.forall_mem_cons.mpr ⟨rfl, hc2⟩) hLl hR hL hS0)
        · cases hs
      · cases hs
    · cases hs
  · obtain rfl : len = 1 := Nat.eq_of_beq_eq_true hI
    simp only [sm_step] at hs
    split at hs
    · rename_i a j r hsr
      obtain ⟨i, rfl, hi⟩ := arr_spec hsr
      have hc2 := (List.forall_mem_cons.mp (List.forall_mem_cons.mp hst).2).2
      split at hs
      · rename_i hk
        cases hs
        exact sr_iald C hR hi hk hdg (kk.use (hnx hne) rfl rfl (List.forall_mem_cons.mpr ⟨rfl, hc2⟩) hLl hR hL hS0)
      · cases hs
    · cases hs
  · obtain rfl : len = 1 := Nat.eq_of_beq_eq_true hI
    simp only [sm_step] at hs
    split at hs
    · rename_i a j r hsr
      obtain ⟨i, rfl, hi⟩ := arr_spec hsr
      have hc2 := (List.forall_mem_cons.mp (List.forall_mem_cons.mp hst).2).2
      split at hs
      · rename_i hk
        cases hs
        exact sr_zald C hR hi hk hdg (kk.use (hnx hne) rfl rfl (List.forall_mem_cons.mpr ⟨rfl, hc2⟩) hLl hR hL hS0)
      · cases hs
    · cases hs
  · obtain rfl : len = 1 := Nat.eq_of_beq_eq_true hI
    simp only [sm_step] at hs
    split at hs
    · rename_i a j r hsr
      obtain ⟨i, rfl, hi⟩ := arr_spec hsr
      have hc2 := (List.forall_mem_cons.mp (List.forall_mem_cons.mp hst).2).2
      split at hs
      · rename_i hk
        cases hs
        exact sr_aald C hR hi hk.1 hk.2 hdg (kk.use (hnx hne) rfl rfl (List.forall_mem_cons.mpr ⟨cat_rf _, hc2⟩) hLl hR hL hS0)
      · cases hs
    · cases hs
  · obtain rfl : len = 1 := Nat.eq_of_beq_eq_true hI
    simp only [sm_step] at hs
    split at hs
    · rename_i v st1
      split at hs
      · rename_i x a j r hx hsr
        have ev := sm_in_eq hx
        subst ev
        obtain ⟨i, rfl, hi⟩ := arr_spec hsr
        have hc2 := (List.forall_mem_cons.mp (List.forall_mem_cons.mp (List.forall_mem_cons.mp hst).2).2).2
        split at hs
        · rename_i hk
          cases hs
          exact sr_iast C hR hS0 hi hk hdg (fun H1 locs1 hR1 hS1 => kk.use (hnx hne) rfl rfl hc2 hLl hR1 hL hS1)
        · cases hs
      · cases hs
    · cases hs
  · obtain rfl : len = 1 := Nat.eq_of_beq_eq_true hI
    simp only [sm_step] at hs
    split at hs
    · rename_i v st1
      split at hs
      · rename_i x a j r hx hsr
        have ev := sm_in_eq hx
        subst ev
        obtain ⟨i, rfl, hi⟩ := arr_spec hsr
        have hc2 := (List.forall_mem_cons.mp (List.forall_mem_cons.mp (List.forall_mem_cons.mp hst).2).2).2
        split at hs
        · rename_i hk
          cases hs
          exact sr_zast C hR hS0 hi hk.1 hk.2 hdg (fun H1 locs1 hR1 hS1 => kk.use (hnx hne) rfl rfl hc2 hLl hR1 hL hS1)
        · cases hs
      · cases hs
    · cases hs
  · obtain rfl : len = 1 := Nat.eq_of_beq_eq_true hI
    simp only [sm_step] at hs
    split at hs
    · rename_i v st1
      split at hs
      · rename_i a j r hx hsr
        have ev := sm_rf_eq hx
        subst ev
        obtain ⟨i, rfl, hi⟩ := arr_spec hsr
        have hc2 := (List.forall_mem_cons.mp (List.forall_mem_cons.mp (List.forall_mem_cons.mp hst).2).2).2
        split at hs
        · rename_i hk
          cases hs
          exact sr_aastN C hR hS0 hi hk.1 hk.2 hdg (fun H1 locs1 hR1 hS1 => kk.use (hnx hne) rfl rfl hc2 hLl hR1 hL hS1)
        · cases hs
      · rename_i y a j r hx hsr
        have ev := sm_rf_eq hx
        subst ev
        obtain ⟨i, rfl, hi⟩ := arr_spec hsr
        have hc2 := (List.forall_mem_cons.mp (List.forall_mem_cons.mp (List.forall_mem_cons.mp hst).2).2).2
        split at hs
        · rename_i hk
          cases hs
          exact sr_aast C hR hS0 hi hk hdg (fun H1 locs1 hR1 hS1 => kk.use (hnx hne) rfl rfl hc2 hLl hR1 hL hS1)
        · cases hs
      · cases hs
    · cases hs
  · simp only [ckI, Bool.and_eq_true] at hI
    obtain ⟨i1, i2⟩ := hI
    obtain rfl : len = 3 := Nat.eq_of_beq_eq_true i1
    have hCq : (mW mi, k, x1) ∈ tC ∧ (x1 = 20 ∨ (1 ≤ x1 ∧ x1 ≤ 11)) := by
      by_cases h20 : x1 = 20
      · subst h20
        simp only [decide_eq_true_eq] at i2
        exact ⟨i2, Or.inl rfl⟩
      · cases x1 with
        | zero => cases i2
        | succ n =>
          have i2 : (Nat.blt n 11 && decide ((mW mi, k, n + 1) ∈ tC)) = true := by
            split at i2
            · omega
            · omega
            · rename_i hq
              cases hq
              exact i2
          simp only [Bool.and_eq_true, decide_eq_true_eq] at i2
          have := Nat.le_of_ble_eq_true i2.1
          exact ⟨i2.2, Or.inr ⟨by omega, by omega⟩⟩
    simp only [sm_step] at hs
    split at hs
    · rename_i v r
      split at hs
      · rename_i a ha
        have ev := sm_rf_eq ha
        subst ev
        split at hs
        · rename_i hk
          cases hs
          exact sr_cast C hR hCq.1 hk hCq.2 hdg (kk.use (hnx hne) rfl rfl hst hLl hR hL hS0)
        · cases hs
      · cases hs
    · cases hs
end STEP3
end
section
section STEP4
variable {p : Program} {l : Launch} {env : Env} {R : Room} {s : State} {m : MethodId} {args : Array Value} {below : List Frame} {meth : Method} {c : Code} {H : Heap} {locs : List Loc} {cells slots : Nat} {Q : State → Prop}
variable {ls : Array Slot} {D : va_G} {b g0 g1 : Nat} {mi : MI}

theorem st_inv (C : Cx D b g0 g1 p R s m args meth c mi) {pc len x1 x2 x3 : Nat} {ins : Instr} {code code' : List Ent} {L L' : Lv} {st st' : List Value} {h h' : Hp} (hdg : decode (mC mi) pc = .ok (ins, len)) (hI : ckI mi (pc, ins, len, x1, x2, x3) = true)
    (hnx : code ≠ [] → pcOf code = pc + len) (hs : sm_step mi (pc, ins, len, x1, x2, x3) code L st h = some (code', L', st', h')) (hne : code' ≠ []) (hR : Rp D b g0 g1 s h H) (hL : LRp L ls) (hLl : L.length = mL mi) (hst : ∀ v ∈ st, v.category = 1) (hS0 : va_S (fun q => b ≤ q) s.heap H locs) (kk : Kk p l env R s m args below meth c cells slots Q D b g0 g1 mi h h' L' st' code') (hcells : cells + (sz h' - sz h) ≤ R.cells) (hslots : slots + (sl h' - sl h) ≤ R.slots) (hcl : ¬ x1 < 1000)
    (hins : (∃ k, ins = .invokespecial k) ∨ (∃ k, ins = .invokevirtual k) ∨ (∃ k, ins = .invokestatic k)) :
    W p l env R s m args below meth c H locs cells slots Q (F0 m pc ls st) := by
  have hlsz : ls.size = mL mi := hL.1.trans hLl
  obtain ⟨hx, hb, hml, hown, hts, ⟨hK, hSp, hZ, hM⟩, -, hf1, hf2, -⟩ := id C
  rcases hins with ⟨k, rfl⟩ | ⟨k, rfl⟩ | ⟨k, rfl⟩
  · simp only [ckI, Bool.and_eq_true, if_neg hcl] at hI
    obtain ⟨i1, ⟨⟨i2, i3⟩, i4⟩, i5⟩ := hI
    obtain rfl : len = 3 := Nat.eq_of_beq_eq_true i1
    obtain rfl : x1 = 1000 := Nat.eq_of_beq_eq_true i2
    rw [decide_eq_true_eq] at i3
    have i4 := Nat.le_of_ble_eq_true i4
    have i5 := Nat.le_of_ble_eq_true i5
    simp only [sm_step] at hs
    split at hs
    · rename_i v r
      have hc2 := (List.forall_mem_cons.mp hst).2
      split at hs
      · rename_i a ha
        have ev := sm_rf_eq ha
        subst ev
        split at hs
        · rename_i hr
          cases hs
          have hlk := hts _ (tB_get i3)
          rw [own_owN] at hlk
          exact W.objInit hx hb hown hlk (hts _ w_oi) (hts _ w_oc) rfl (by rw [hml]; exact hlsz) rfl hdg (by omega) (by rw [cat_sum hc2]; show 2 * 0 + _ + 12 ≤ _; omega) (kk.use (hnx hne) rfl rfl hc2 hLl hR hL hS0)
        · cases hs
      · cases hs
    · cases hs
  · simp only [ckI, Bool.and_eq_true, if_neg hcl] at hI
    obtain ⟨i1, i2⟩ := hI
    obtain rfl : len = 3 := Nat.eq_of_beq_eq_true i1
    by_cases h1 : x1 = 1001
    · subst h1
      simp only [Bool.and_eq_true, decide_eq_true_eq] at i2
      obtain ⟨⟨i3, i4⟩, i5⟩ := i2
      have i4 := Nat.le_of_ble_eq_true i4
      have i5 := Nat.le_of_ble_eq_true i5
      simp only [sm_step] at hs
      split at hs
      · rename_i v r
        have hc2 := (List.forall_mem_cons.mp hst).2
        split at hs
        · rename_i a ha
          have ev := sm_rf_eq ha
          subst ev
          split at hs
          · rename_i hr
            cases hs
            have e1 : sz (hcln h a) - sz h = 1 := Nat.add_sub_cancel_left _ _
            have e2 : sl (hcln h a) - sl h = ln h a := Nat.add_sub_cancel_left _ _
            rw [e1] at hcells
            rw [e2] at hslots
            exact sr_clone C hlsz hR hS0 i3 hr.1 i4 i5 (by rw [cat_sum hc2]; exact hr.2) hcells hslots hdg (fun H1 hR1 hS1 => kk.new (hnx hne) rfl rfl (List.forall_mem_cons.mpr ⟨rfl, hc2⟩) hLl hR1 hL hS1)
          · cases hs
        · cases hs
      · cases hs
    · by_cases h3 : x1 = 1003
      · subst h3
        simp only [Bool.and_eq_true, decide_eq_true_eq] at i2
        obtain ⟨⟨i3, i4⟩, i5⟩ := i2
        have i4 := Nat.le_of_ble_eq_true i4
        have i5 := Nat.le_of_ble_eq_true i5
        simp only [sm_step] at hs
        split at hs
        · rename_i v r
          have hc2 := (List.forall_mem_cons.mp hst).2
          split at hs
          · rename_i a ha
            have ev := sm_rf_eq ha
            subst ev
            split at hs
            · rename_i hr
              cases hs
              have hlk := hts _ (tB_get i3)
              rw [own_owN] at hlk
              obtain ⟨-, cA, r4, r5, r6⟩ := hR.arr (a := a) (by omega) (by omega)
              rw [hr.1, aty_o (by decide) (by decide)] at r6
              have K := kk.use (hnx hne) rfl rfl (List.forall_mem_cons.mpr ⟨rfl, hc2⟩) hLl hR hL hS0
              rw [hR.2.2.2.2.2] at K
              exact va_getC hx hb (hml.trans hlsz.symm) hown hlk (va_Dc.use (hSp _ w_dG rfl)) (hts _ w_lG) (hts _ w_iG) (hts _ w_nG) hM ⟨_, r4, rfl, va_nmO r6 rfl⟩ (by omega) (by rw [cat_sum hc2]; omega) hdg K
            · cases hs
          · cases hs
        · cases hs
      · exfalso
        have h4 : x1 = 1001 ∨ x1 = 1003 := by
          split at i2
          · exact Or.inl rfl
          · exact Or.inr rfl
          · cases i2
        omega
  · simp only [ckI, Bool.and_eq_true, if_neg hcl] at hI
    obtain ⟨i1, i2⟩ := hI
    obtain rfl : len = 3 := Nat.eq_of_beq_eq_true i1
    by_cases h2 : x1 = 1002
    · subst h2
      simp only [Bool.and_eq_true, decide_eq_true_eq] at i2
      obtain ⟨⟨i3, i4⟩, i5⟩ := i2
      have i4 := Nat.le_of_ble_eq_true i4
      have i5 := Nat.le_of_ble_eq_true i5
      simp only [sm_step] at hs
      split at hs
      · rename_i v1 v2 v3 v4 v5 r
        split at hs
        · rename_i n dp a sp a0 e1 e2 e3 e4 e5
          have f1 := sm_in_eq e1
          have f2 := sm_in_eq e2
          have f3 := sm_rf_eq e3
          have f4 := sm_in_eq e4
          have f5 := sm_rf_eq e5
          subst f1; subst f2; subst f3; subst f4; subst f5
          have hc2 := (List.forall_mem_cons.mp (List.forall_mem_cons.mp (List.forall_mem_cons.mp (List.forall_mem_cons.mp (List.forall_mem_cons.mp hst).2).2).2).2).2
          split at hs
          · rename_i hr
            obtain ⟨r1, r2, r3, r4, r5, r6, r7, r8⟩ := hr
            cases hs
            exact sr_copy C hlsz hR hS0 i3 r1 r2 i4 i5 (by rw [cat_sum hc2]; exact r8) r5 r4 r3 r6 r7 hdg (fun H1 locs1 hR1 hS1 => kk.use (hnx hne) rfl rfl hc2 hLl hR1 hL hS1)
          · cases hs
        · cases hs
      · cases hs
    · by_cases h4 : x1 = 1004
      · subst h4
        simp only [Bool.and_eq_true, decide_eq_true_eq] at i2
        obtain ⟨⟨i3, i4⟩, i5⟩ := i2
        have i4 := Nat.le_of_ble_eq_true i4
        have i5 := Nat.le_of_ble_eq_true i5
        simp only [sm_step] at hs
        split at hs
        · rename_i v w r
          split at hs
          · rename_i y x e1 e2
            have f1 := sm_in_eq e1
            have f2 := sm_in_eq e2
            subst f1; subst f2
            have hc2 := (List.forall_mem_cons.mp (List.forall_mem_cons.mp hst).2).2
            split at hs
            · rename_i hr
              cases hs
              have hlk := hts _ (tB_get i3)
              rw [own_owN] at hlk
              rw [Nat.sub_self] at hcells hslots
              exact va_mmax hx hb (hml.trans hlsz.symm) hown hlk (hts _ w_sMx) (hts _ w_iMa) (hts _ w_cMx) (by omega) (by rw [cat_sum hc2]; omega) hcells hslots hdg (kk.use (hnx hne) rfl rfl (List.forall_mem_cons.mpr ⟨rfl, hc2⟩) hLl hR hL hS0)
            · cases hs
          · cases hs
        · cases hs
      · by_cases h5 : x1 = 1005
        · subst h5
          simp only [Bool.and_eq_true, decide_eq_true_eq] at i2
          obtain ⟨⟨i3, i4⟩, i5⟩ := i2
          have i4 := Nat.le_of_ble_eq_true i4
          have i5 := Nat.le_of_ble_eq_true i5
          simp only [sm_step] at hs
          split at hs
          · rename_i v w r
            split at hs
            · rename_i y x e1 e2
              have f1 := sm_in_eq e1
              have f2 := sm_in_eq e2
              subst f1; subst f2
              have hc2 := (List.forall_mem_cons.mp (List.forall_mem_cons.mp hst).2).2
              split at hs
              · rename_i hr
                cases hs
                have hlk := hts _ (tB_get i3)
                rw [own_owN] at hlk
                rw [Nat.sub_self] at hcells hslots
                exact va_mmin hx hb (hml.trans hlsz.symm) hown hlk (hts _ w_sMn) (hts _ w_iMa) (hts _ w_cMn) (by omega) (by rw [cat_sum hc2]; omega) hcells hslots hdg (kk.use (hnx hne) rfl rfl (List.forall_mem_cons.mpr ⟨rfl, hc2⟩) hLl hR hL hS0)
              · cases hs
            · cases hs
          · cases hs
        · exfalso
          have h6 : x1 = 1002 ∨ x1 = 1004 ∨ x1 = 1005 := by
            split at i2
            · exact Or.inl rfl
            · exact Or.inr (Or.inl rfl)
            · exact Or.inr (Or.inr rfl)
            · cases i2
          omega
theorem st_all (C : Cx D b g0 g1 p R s m args meth c mi) {pc len x1 x2 x3 : Nat} {ins : Instr} {code code' : List Ent} {L L' : Lv} {st st' : List Value} {h h' : Hp} (hdg : decode (mC mi) pc = .ok (ins, len)) (hI : ckI mi (pc, ins, len, x1, x2, x3) = true)
    (hnx : code ≠ [] → pcOf code = pc + len) (hs : sm_step mi (pc, ins, len, x1, x2, x3) code L st h = some (code', L', st', h')) (hne : code' ≠ []) (hR : Rp D b g0 g1 s h H) (hL : LRp L ls) (hLl : L.length = mL mi) (hst : ∀ v ∈ st, v.category = 1) (hS0 : va_S (fun q => b ≤ q) s.heap H locs) (kk : Kk p l env R s m args below meth c cells slots Q D b g0 g1 mi h h' L' st' code') (hcells : cells + (sz h' - sz h) ≤ R.cells) (hslots : slots + (sl h' - sl h) ≤ R.slots) (hcl0 : sm_cls (pc, ins, len, x1, x2, x3) = 0) :
    W p l env R s m args below meth c H locs cells slots Q (F0 m pc ls st) := by
  cases ins with
  | iload_n k => exact st_load C hdg hI hnx hs hne hR hL hLl hst hS0 kk (Or.inl ⟨k, rfl⟩)
  | iload k => exact st_load C hdg hI hnx hs hne hR hL hLl hst hS0 kk (Or.inr (Or.inl ⟨k, rfl⟩))
  | aload_n k => exact st_load C hdg hI hnx hs hne hR hL hLl hst hS0 kk (Or.inr (Or.inr (Or.inl ⟨k, rfl⟩)))
  | aload k => exact st_load C hdg hI hnx hs hne hR hL hLl hst hS0 kk (Or.inr (Or.inr (Or.inr (Or.inl ⟨k, rfl⟩))))
  | istore_n k => exact st_load C hdg hI hnx hs hne hR hL hLl hst hS0 kk (Or.inr (Or.inr (Or.inr (Or.inr (Or.inl ⟨k, rfl⟩)))))
  | istore k => exact st_load C hdg hI hnx hs hne hR hL hLl hst hS0 kk (Or.inr (Or.inr (Or.inr (Or.inr (Or.inr (Or.inl ⟨k, rfl⟩))))))
  | astore_n k => exact st_load C hdg hI hnx hs hne hR hL hLl hst hS0 kk (Or.inr (Or.inr (Or.inr (Or.inr (Or.inr (Or.inr (Or.inl ⟨k, rfl⟩)))))))
  | astore k => exact st_load C hdg hI hnx hs hne hR hL hLl hst hS0 kk (Or.inr (Or.inr (Or.inr (Or.inr (Or.inr (Or.inr (Or.inr (Or.inl ⟨k, rfl⟩))))))))
  | iinc k n => exact st_load C hdg hI hnx hs hne hR hL hLl hst hS0 kk (Or.inr (Or.inr (Or.inr (Or.inr (Or.inr (Or.inr (Or.inr (Or.inr (⟨k, n, rfl⟩)))))))))
  | iadd => exact st_bin C hdg hI hnx hs hne hR hL hLl hst hS0 kk (Or.inl rfl)
  | isub => exact st_bin C hdg hI hnx hs hne hR hL hLl hst hS0 kk (Or.inr (Or.inl rfl))
  | imul => exact st_bin C hdg hI hnx hs hne hR hL hLl hst hS0 kk (Or.inr (Or.inr (Or.inl rfl)))
  | iand => exact st_bin C hdg hI hnx hs hne hR hL hLl hst hS0 kk (Or.inr (Or.inr (Or.inr (Or.inl rfl))))
  | ior => exact st_bin C hdg hI hnx hs hne hR hL hLl hst hS0 kk (Or.inr (Or.inr (Or.inr (Or.inr (Or.inl rfl)))))
  | ishl => exact st_bin C hdg hI hnx hs hne hR hL hLl hst hS0 kk (Or.inr (Or.inr (Or.inr (Or.inr (Or.inr (Or.inl rfl))))))
  | ishr => exact st_bin C hdg hI hnx hs hne hR hL hLl hst hS0 kk (Or.inr (Or.inr (Or.inr (Or.inr (Or.inr (Or.inr (Or.inl rfl)))))))
  | iushr => exact st_bin C hdg hI hnx hs hne hR hL hLl hst hS0 kk (Or.inr (Or.inr (Or.inr (Or.inr (Or.inr (Or.inr (Or.inr (Or.inl rfl))))))))
  | idiv => exact st_bin C hdg hI hnx hs hne hR hL hLl hst hS0 kk (Or.inr (Or.inr (Or.inr (Or.inr (Or.inr (Or.inr (Or.inr (Or.inr (Or.inl rfl)))))))))
  | irem => exact st_bin C hdg hI hnx hs hne hR hL hLl hst hS0 kk (Or.inr (Or.inr (Or.inr (Or.inr (Or.inr (Or.inr (Or.inr (Or.inr (Or.inr (rfl))))))))))
  | iconst k => exact st_cst C hdg hI hnx hs hne hR hL hLl hst hS0 kk (Or.inl ⟨k, rfl⟩)
  | bipush k => exact st_cst C hdg hI hnx hs hne hR hL hLl hst hS0 kk (Or.inr (Or.inl ⟨k, rfl⟩))
  | sipush k => exact st_cst C hdg hI hnx hs hne hR hL hLl hst hS0 kk (Or.inr (Or.inr (Or.inl ⟨k, rfl⟩)))
  | ldc k => exact st_cst C hdg hI hnx hs hne hR hL hLl hst hS0 kk (Or.inr (Or.inr (Or.inr (Or.inl ⟨k, rfl⟩))))
  | ldc_w k => exact st_cst C hdg hI hnx hs hne hR hL hLl hst hS0 kk (Or.inr (Or.inr (Or.inr (Or.inr (Or.inl ⟨k, rfl⟩)))))
  | aconst_null => exact st_cst C hdg hI hnx hs hne hR hL hLl hst hS0 kk (Or.inr (Or.inr (Or.inr (Or.inr (Or.inr (Or.inl rfl))))))
  | getstatic k => exact st_cst C hdg hI hnx hs hne hR hL hLl hst hS0 kk (Or.inr (Or.inr (Or.inr (Or.inr (Or.inr (Or.inr (⟨k, rfl⟩)))))))
  | dup => exact st_stk C hdg hI hnx hs hne hR hL hLl hst hS0 kk (Or.inl rfl)
  | dup_x1 => exact st_stk C hdg hI hnx hs hne hR hL hLl hst hS0 kk (Or.inr (Or.inl rfl))
  | dup2 => exact st_stk C hdg hI hnx hs hne hR hL hLl hst hS0 kk (Or.inr (Or.inr (Or.inl rfl)))
  | pop => exact st_stk C hdg hI hnx hs hne hR hL hLl hst hS0 kk (Or.inr (Or.inr (Or.inr (rfl))))
  | ifCond k o => exact st_br C hdg hI hnx hs hne hR hL hLl hst hS0 kk (Or.inl ⟨k, o, rfl⟩)
  | if_icmp k o => exact st_br C hdg hI hnx hs hne hR hL hLl hst hS0 kk (Or.inr (⟨k, o, rfl⟩))
  | if_acmp k o => exact st_jmp C hdg hI hnx hs hne hR hL hLl hst hS0 kk (Or.inl ⟨k, o, rfl⟩)
  | ifnull o => exact st_jmp C hdg hI hnx hs hne hR hL hLl hst hS0 kk (Or.inr (Or.inl ⟨o, rfl⟩))
  | ifnonnull o => exact st_jmp C hdg hI hnx hs hne hR hL hLl hst hS0 kk (Or.inr (Or.inr (Or.inl ⟨o, rfl⟩)))
  | goto o => exact st_jmp C hdg hI hnx hs hne hR hL hLl hst hS0 kk (Or.inr (Or.inr (Or.inr (Or.inl ⟨o, rfl⟩))))
  | tableswitch d lo hi offs => exact st_jmp C hdg hI hnx hs hne hR hL hLl hst hS0 kk (Or.inr (Or.inr (Or.inr (Or.inr (⟨d, lo, hi, offs, rfl⟩)))))
  | getfield k => exact st_fld C hdg hI hnx hs hne hR hL hLl hst hS0 kk (Or.inl ⟨k, rfl⟩)
  | putfield k => exact st_fld C hdg hI hnx hs hne hR hL hLl hst hS0 kk (Or.inr (⟨k, rfl⟩))
  | new k => exact st_new C hdg hI hnx hs hne hR hL hLl hst hS0 kk hcells hslots (Or.inl ⟨k, rfl⟩)
  | newarray k => exact st_new C hdg hI hnx hs hne hR hL hLl hst hS0 kk hcells hslots (Or.inr (Or.inl ⟨k, rfl⟩))
  | anewarray k => exact st_new C hdg hI hnx hs hne hR hL hLl hst hS0 kk hcells hslots (Or.inr (Or.inr (⟨k, rfl⟩)))
  | arraylength => exact st_arr C hdg hI hnx hs hne hR hL hLl hst hS0 kk (Or.inl rfl)
  | iaload => exact st_arr C hdg hI hnx hs hne hR hL hLl hst hS0 kk (Or.inr (Or.inl rfl))
  | baload => exact st_arr C hdg hI hnx hs hne hR hL hLl hst hS0 kk (Or.inr (Or.inr (Or.inl rfl)))
  | aaload => exact st_arr C hdg hI hnx hs hne hR hL hLl hst hS0 kk (Or.inr (Or.inr (Or.inr (Or.inl rfl))))
  | iastore => exact st_arr C hdg hI hnx hs hne hR hL hLl hst hS0 kk (Or.inr (Or.inr (Or.inr (Or.inr (Or.inl rfl)))))
  | bastore => exact st_arr C hdg hI hnx hs hne hR hL hLl hst hS0 kk (Or.inr (Or.inr (Or.inr (Or.inr (Or.inr (Or.inl rfl))))))
  | aastore => exact st_arr C hdg hI hnx hs hne hR hL hLl hst hS0 kk (Or.inr (Or.inr (Or.inr (Or.inr (Or.inr (Or.inr (Or.inl rfl)))))))
  | checkcast k => exact st_arr C hdg hI hnx hs hne hR hL hLl hst hS0 kk (Or.inr (Or.inr (Or.inr (Or.inr (Or.inr (Or.inr (Or.inr (⟨k, rfl⟩))))))))
  | invokespecial k => exact st_inv C hdg hI hnx hs hne hR hL hLl hst hS0 kk hcells hslots (by intro z; simp [sm_cls, z] at hcl0; split at hcl0 <;> simp_all) (Or.inl ⟨k, rfl⟩)
  | invokevirtual k => exact st_inv C hdg hI hnx hs hne hR hL hLl hst hS0 kk hcells hslots (by intro z; simp [sm_cls, z] at hcl0; split at hcl0 <;> simp_all) (Or.inr (Or.inl ⟨k, rfl⟩))
  | invokestatic k => exact st_inv C hdg hI hnx hs hne hR hL hLl hst hS0 kk hcells hslots (by intro z; simp [sm_cls, z] at hcl0; split at hcl0 <;> simp_all) (Or.inr (Or.inr (⟨k, rfl⟩)))
  | _ => cases hs
end STEP4
end
section
/-! THE SMALL MACHINE IS SOUND -/
set_option maxHeartbeats 2000000 in
theorem step_mono {mi : MI} {e : Ent} {code code' : List Ent} {L L' : Lv} {st st' : List Value} {h h' : Hp} (hs : sm_step mi e code L st h = some (code', L', st', h')) : sz h ≤ sz h' ∧ sl h ≤ sl h' := by
  have key : h' = h ∨ (∃ f a v, h' = wfI h f a v) ∨ (∃ f a v, h' = wfR h f a v) ∨ (∃ f a v, h' = waI h f a v) ∨ (∃ f a v, h' = waR h f a v) ∨ (∃ k n w, h' = hnew h k n w) ∨ (∃ a, h' = hcln h a) ∨ (∃ a0 sp a dp n, h' = hcpy h a0 sp a dp n) := by
    unfold sm_step at hs
    split at hs <;> (try unfold sm_ild at hs) <;> (try unfold sm_ald at hs) <;> (try unfold sm_ist at hs) <;> (try unfold sm_ast at hs) <;> (try unfold sm_bin at hs) <;> (try unfold sm_binD at hs) <;> (repeat' split at hs) <;> first | (cases hs; done) | (cases hb : Nat.blt _ L.length <;> rw [hb] at hs <;> cases hs <;> exact Or.inl rfl) | (cases hs; first | exact Or.inl rfl | exact Or.inr (Or.inl ⟨_, _, _, rfl⟩) | exact Or.inr (Or.inr (Or.inl ⟨_, _, _, rfl⟩)) | exact Or.inr (Or.inr (Or.inr (Or.inl ⟨_, _, _, rfl⟩))) | exact Or.inr (Or.inr (Or.inr (Or.inr (Or.inl ⟨_, _, _, rfl⟩)))) | exact Or.inr (Or.inr (Or.inr (Or.inr (Or.inr (Or.inl ⟨_, _, _, rfl⟩))))) | exact Or.inr (Or.inr (Or.inr (Or.inr (Or.inr (Or.inr (Or.inl ⟨_, rfl⟩)))))) | exact Or.inr (Or.inr (Or.inr (Or.inr (Or.inr (Or.inr (Or.inr ⟨_, _, _, _, _, rfl⟩)))))))
  rcases key with rfl | ⟨_, _, _, rfl⟩ | ⟨_, _, _, rfl⟩ | ⟨_, _, _, rfl⟩ | ⟨_, _, _, rfl⟩ | ⟨_, _, _, rfl⟩ | ⟨_, rfl⟩ | ⟨_, _, _, _, _, rfl⟩
  · exact ⟨Nat.le_refl _, Nat.le_refl _⟩
  · exact ⟨Nat.le_refl _, Nat.le_refl _⟩
  · exact ⟨Nat.le_refl _, Nat.le_refl _⟩
  · exact ⟨Nat.le_refl _, Nat.le_refl _⟩
  · exact ⟨Nat.le_refl _, Nat.le_refl _⟩
  · exact ⟨Nat.le_succ _, Nat.le_add_right _ _⟩
  · exact ⟨Nat.le_succ _, Nat.le_add_right _ _⟩
  · exact ⟨Nat.le_refl _, Nat.le_refl _⟩
theorem ret_spec {mi : MI} {e : Ent} {st : List Value} {h h' : Hp} {r : Option Value} (hs : sm_ret mi e st h = some (r, h')) : h' = h ∧ ((e.2.1 = .return_ ∧ st = [] ∧ mR mi = none ∧ r = none) ∨ (e.2.1 = .ireturn ∧ ∃ x, st = [.int x] ∧ r = some (.int x) ∧ (mR mi = some .int ∨ (mR mi = some .boolean ∧ (x = 0 ∨ x = 1)))) ∨ (e.2.1 = .areturn ∧ ∃ v, st = [va_rf v] ∧ r = some (va_rf v) ∧ ((∃ n, mR mi = some (.object n)) ∨ ∃ t, mR mi = some (.array t)))) := by
  unfold sm_ret at hs
  split at hs
  · rename_i he
    split at hs
    · rename_i hr
      cases hs
      exact ⟨rfl, Or.inl ⟨he, rfl, hr, rfl⟩⟩
    · cases hs
  · rename_i he
    split at hs
    · rename_i v
      split at hs
      · rename_i x hx
        have ev := sm_in_eq hx
        subst ev
        split at hs
        · rename_i hr
          cases hs
          exact ⟨rfl, Or.inr (Or.inl ⟨he, x, rfl, rfl, Or.inl hr⟩)⟩
        · rename_i hr
          split at hs
          · rename_i h01
            cases hs
            exact ⟨rfl, Or.inr (Or.inl ⟨he, x, rfl, rfl, Or.inr ⟨hr, h01⟩⟩)⟩
          · cases hs
        · cases hs
      · cases hs
    · cases hs
  · rename_i he
    split at hs
    · rename_i v
      split at hs
      · rename_i x hx
        have ev := sm_rf_eq hx
        subst ev
        split at hs
        · rename_i n hr
          cases hs
          exact ⟨rfl, Or.inr (Or.inr ⟨he, x, rfl, rfl, Or.inl ⟨_, hr⟩⟩)⟩
        · rename_i n hr
          cases hs
          exact ⟨rfl, Or.inr (Or.inr ⟨he, x, rfl, rfl, Or.inr ⟨_, hr⟩⟩)⟩
        · cases hs
      · cases hs
    · cases hs
  · cases hs
theorem run_mono : ∀ (n : Nat) (mi : MI) (code : List Ent) (L : Lv) (st : List Value) (h : Hp) (r : Option Value) (h' : Hp), sm_run MT n mi code L st h = some (r, h') → sz h ≤ sz h' ∧ sl h ≤ sl h' := by
  intro n
  induction n with
  | zero => intro mi code L st h r h' hs; cases hs
  | succ n ih =>
    intro mi code L st h r h' hs
    cases code with
    | nil => cases hs
    | cons e code =>
      unfold sm_run at hs
      split at hs
      · split at hs
        · rename_i q hq
          obtain ⟨a1, a2⟩ := step_mono (code' := q.1) (L' := q.2.1) (st' := q.2.2.1) (h' := q.2.2.2) hq
          obtain ⟨b1, b2⟩ := ih _ _ _ _ _ _ _ hs
          exact ⟨Nat.le_trans a1 b1, Nat.le_trans a2 b2⟩
        · cases hs
      · split at hs
        · split at hs
          · split at hs
            · rename_i q hq
              obtain ⟨a1, a2⟩ := ih _ _ _ _ _ q.1 q.2 hq
              obtain ⟨b1, b2⟩ := ih _ _ _ _ _ _ _ hs
              exact ⟨Nat.le_trans a1 b1, Nat.le_trans a2 b2⟩
            · cases hs
          · cases hs
        · cases hs
      · obtain ⟨rfl, -⟩ := ret_spec hs
        exact ⟨Nat.le_refl _, Nat.le_refl _⟩
      · cases hs
/-- a piece of code whose rows are checked -/
def OkC (mi : MI) (code : List Ent) : Prop := (∀ e ∈ code, ckE mi e = true) ∧ ckN code = true
theorem OkC.tail {mi : MI} {e : Ent} {code : List Ent} (h : OkC mi (e :: code)) : OkC mi code := by
  refine ⟨fun x hx => h.1 x (List.mem_cons_of_mem _ hx), ?_⟩
  cases code with
  | nil => rfl
  | cons e' r =>
    have := h.2
    unfold ckN at this
    rw [Bool.and_eq_true] at this
    exact this.2
theorem OkC.next {mi : MI} {e : Ent} {code : List Ent} (h : OkC mi (e :: code)) (hne : code ≠ []) : pcOf code = e.1 + e.2.2.1 := by
  cases code with
  | nil => exact absurd rfl hne
  | cons e' r =>
    have := h.2
    unfold ckN at this
    rw [Bool.and_eq_true] at this
    exact Nat.eq_of_beq_eq_true this.1
theorem OkC.seek {mi : MI} {p : List Ent} (t : Nat) (h : OkC mi p) : OkC mi (sm_seek p t) := by
  induction p with
  | nil => exact h
  | cons a q ih =>
    unfold sm_seek
    cases hb : Nat.beq a.1 t with
    | true => exact h
    | false => exact ih h.tail
theorem step_code {mi : MI} {e : Ent} {code code' : List Ent} {L L' : Lv} {st st' : List Value} {h h' : Hp} (hs : sm_step mi e code L st h = some (code', L', st', h')) : code' = code ∨ ∃ t, code' = sm_seek (mP mi) t := by
  unfold sm_step at hs
  split at hs <;> (try unfold sm_ild at hs) <;> (try unfold sm_ald at hs) <;> (try unfold sm_ist at hs) <;> (try unfold sm_ast at hs) <;> (try unfold sm_bin at hs) <;> (try unfold sm_binD at hs) <;> (repeat' split at hs) <;> first | (cases hs; done) | (cases hb : Nat.blt _ L.length <;> rw [hb] at hs <;> cases hs <;> exact Or.inl rfl) | (cases hs; first | exact Or.inl rfl | exact Or.inr ⟨_, rfl⟩)
end
section
theorem tM_lt : tM.all (fun r => Nat.blt r.2.2.1 145) = true := by decide +kernel
theorem tM_lt' {o i k z : Nat} (h : (o, i, k, z) ∈ tM) : k < 145 := Nat.le_of_ble_eq_true (List.all_eq_true.mp tM_lt _ h)
def RetOk (mi : MI) (ins : Instr) (st : List Value) (r : Option Value) : Prop := (ins = .return_ ∧ st = [] ∧ mR mi = none ∧ r = none) ∨ (ins = .ireturn ∧ ∃ x, st = [.int x] ∧ r = some (.int x) ∧ (mR mi = some .int ∨ (mR mi = some .boolean ∧ (x = 0 ∨ x = 1)))) ∨ (ins = .areturn ∧ ∃ v, st = [va_rf v] ∧ r = some (va_rf v) ∧ ((∃ n, mR mi = some (.object n)) ∨ ∃ t, mR mi = some (.array t)))
/-- what holds of every method but the law -/
def GoodM (m : MI) : Prop := OkC m (mP m) ∧ pcOf (mP m) = 0 ∧ mP m ≠ []
theorem GoodM.of {m : MI} (h : ckM m = true) : GoodM m := by
  unfold ckM at h
  simp only [Bool.and_eq_true] at h
  obtain ⟨⟨h1, h2⟩, h3⟩ := h
  refine ⟨⟨List.all_eq_true.mp h1, h2⟩, ?_, ?_⟩
  · cases hp : mP m with
    | nil => rw [hp] at h3; cases h3
    | cons e r => rw [hp] at h3; exact Nat.eq_of_beq_eq_true h3
  · intro hp
    rw [hp] at h3
    cases h3
theorem l0_LRp {m : MI} {As : List Value} (hc : ∀ v ∈ As, v.category = 1) (hn : As.length ≤ mL m) : LRp (sm_l0 m As) ((As.map Slot.val ++ List.replicate (mL m - As.length) Slot.unset).toArray) ∧ (sm_l0 m As).length = mL m := by
  have hlen : (sm_l0 m As).length = mL m := by
    unfold sm_l0
    rw [List.length_append, List.length_map, List.length_replicate]
    omega
  refine ⟨⟨?_, ⟨?_, ?_⟩, ?_⟩, hlen⟩
  · rw [hlen]
    simp
    omega
  · intro i v hi h2
    rw [List.getElem?_toArray] at hi
    have hm := List.mem_of_getElem? hi
    rcases List.mem_append.mp hm with h | h
    · obtain ⟨w, hw, he⟩ := List.mem_map.mp h
      cases he
      rw [hc v hw] at h2
      cases h2
    · have := List.eq_of_mem_replicate h
      cases this
  · intro i hi
    rw [List.getElem?_toArray] at hi
    have hm := List.mem_of_getElem? hi
    rcases List.mem_append.mp hm with h | h
    · obtain ⟨w, hw, he⟩ := List.mem_map.mp h
      cases he
    · have := List.eq_of_mem_replicate h
      cases this
  · intro i v hi
    unfold sm_l0 at hi
    by_cases hl : i < As.length
    · rw [List.getElem?_append_left (by rw [List.length_map]; exact hl), List.getElem?_map] at hi
      cases hv : As[i]? with
      | none => rw [hv] at hi; cases hi
      | some w =>
        rw [hv] at hi
        cases hi
        refine ⟨?_, hc v (List.mem_of_getElem? hv)⟩
        rw [List.getElem?_toArray, List.getElem?_append_left (by rw [List.length_map]; exact hl), List.getElem?_map, hv]
        rfl
    · rw [List.getElem?_append_right (by rw [List.length_map]; omega)] at hi
      have := List.eq_of_mem_replicate (List.mem_of_getElem? hi)
      cases this
theorem Kx.warm {D : va_G} {b g0 g1 : Nat} {s U : State} {H : Heap} {locs : List Loc} (h : Kx D b g0 g1 s) (hW : s.WarmedH U.vm) (hS : va_S (fun q => b ≤ q) s.heap H locs) (hU : U.heap = H) : Kx D b g0 g1 U := by
  obtain ⟨h1, h2, h3, h4⟩ := h
  refine ⟨h1.moved hW.alike, h2.warm hW, ?_, h4.moved hW.alike⟩
  rw [hU]
  exact (h3.moved hW.alike).kept hS.2.1
/-- a method's contract in the small machine's words -/
def mPc (D : va_G) (b g0 g1 : Nat) (As : List Value) (h : Hp) : Array Value → State → Prop := fun v U => v = As.toArray ∧ Rp D b g0 g1 U h U.heap ∧ Kx D b g0 g1 U ∧ b ≤ U.heap.size
def mQc (D : va_G) (b g0 g1 : Nat) (r : Option Value) (h' : Hp) : Array Value → State → Outcome → State → Prop := fun _ st oc t => oc = .returned r ∧ Rp D b g0 g1 t h' t.heap ∧ va_F (fun q => b ≤ q) st t
theorem mPc_blind {D : va_G} {b g0 g1 : Nat} {As : List Value} {h : Hp} : FrameBlind (mPc D b g0 g1 As h) := by
  intro a U g mk ⟨q1, q2, ⟨k1, k2, k3, k4⟩, q4⟩
  have hal : U.vm.Alike (U.calling g mk a).vm := Vm.Alike.refl U.vm
  refine ⟨q1, q2.moved hal, ⟨va_K.moved hal k1, fun w hw hs => ?_, k3.moved hal, k4.moved hal⟩, q4⟩
  have h1 := k2 w hw hs
  cases w <;> first | (simp [isSp] at hs; done) | exact va_Nw.same (u := U) (U := U.calling g mk a) rfl rfl h1 | (rename_i t; cases t <;> first | exact va_AO.moved hal h1 | (simp [isSp] at hs; done))
section CALL
variable {p : Program} {l : Launch} {e : Env} {R : Room} {s : State} {m : MethodId} {args : Array Value} {below : List Frame} {meth : Method} {c : Code} {H : Heap} {locs : List Loc} {cells slots : Nat} {Q : State → Prop}
variable {pc : Nat} {ls : Array Slot} {rest st0 : List Value} {D : va_G} {b g0 g1 : Nat} {mc ms : Nat} {a : Array Value} {r : Option Value} {h' : Hp}
theorem run_call (hr : va_Run p l e R s m args below meth c H locs cells slots mc ms (F0 m pc ls st0) rest (mQc D b g0 g1 r h' a) (fun q => b ≤ q)) (hS : va_S (fun q => b ≤ q) s.heap H locs)
    (kk : ∀ (H1 : Heap) (locs1 : List Loc), Rp D b g0 g1 s h' H1 → va_S (fun q => b ≤ q) s.heap H1 locs1 → W p l e R s m args below meth c H1 locs1 (cells + mc) (slots + ms) Q (F0 m (pc + 3) ls (r.toList ++ rest))) : W p l e R s m args below meth c H locs cells slots Q (F0 m pc ls st0) := by
  intro T hT X
  obtain ⟨v, st₀, t, T', L, h0, X', hL, e1, e2, ⟨hv, hRp, hz, hk⟩, st⟩ := hr T hT X
  cases hv
  rw [h0] at hz hk
  have hal : s.vm.Alike t.vm := by rw [← e2]; exact X'.warmed.alike
  obtain ⟨t2, a1, b1⟩ := kk T'.heap (locs ++ L) (by rw [e1]; exact hRp.moved hal.symm)
    ⟨Nat.le_trans hS.1 (by rw [e1]; exact hz), fun q h1 h2 => by rw [e1, hk q (Nat.lt_of_lt_of_le h1 hS.1) h2]; exact hS.2.1 q h1 h2, fun q hq => by
      rcases List.mem_append.mp hq with h | h
      · exact hS.2.2 q h
      · exact hL q h⟩ T' rfl X'
  exact ⟨t2, st t2 a1, b1⟩
end CALL
theorem bw_good {m : MI} (hc : Cond.code (mY m) (mC m) (mL m) (mR m) ∈ bw) : GoodIn bw (Cond.code (mY m) (mC m) (mL m) (mR m) :: bw) := by
  have h1 : ∀ w ∈ bw, w ∈ bw ∧ ((w.onTables && w.keeps) = true ∨ ∃ ty, w = .arrayClass ty) := fun w hw => ⟨hw, good_of_word (List.mem_filter.mp hw).2⟩
  intro w hw
  rcases List.mem_cons.mp hw with rfl | hw
  · exact h1 _ hc
  · exact h1 _ hw
end
section
theorem okY_facts {m : MI} {q : Nat × Nat × Nat × Nat} (h : okY m q = true) : Cond.code (mY m) (mC m) (mL m) (mR m) ∈ bw ∧ Cond.initialized (mY m).cls ∈ bw ∧ (mY m).cls = owN m ∧ ((mY m).cls ≠ "java/lang/invoke/MethodHandle" ∧ (mY m).cls ≠ "java/lang/invoke/VarHandle") ∧ plainName (mY m).cls = true ∧ mN m ≤ mL m ∧
    (mK m = 0 → (parseMethodDescriptor (mY m).desc).map (fun d => d.parameters.length) = some (mN m) ∧ Cond.static (mY m) ∈ bw) ∧
    (mK m = 1 → (parseMethodDescriptor (mY m).desc).map (fun d => d.parameters.length + 1) = some (mN m) ∧ Cond.instanceMethod (mY m) ∈ bw ∧ (mY m).name = "<init>" ∧ mR m = none) ∧
    (∀ k, mK m = k + 2 → (parseMethodDescriptor (mY m).desc).map (fun d => d.parameters.length + 1) = some (mN m) ∧ Cond.instanceMethod (mY m) ∈ bw ∧ Cond.selects (mY m).cls (mY m) (mY m) ∈ bw ∧ (wc[k]?).map (fun q => q.1) = some (mY m).cls) := by
  unfold okY at h
  simp only [Bool.and_eq_true, decide_eq_true_eq] at h
  obtain ⟨⟨⟨⟨⟨⟨⟨⟨a1, a2⟩, a3⟩, a4⟩, a5⟩, a6⟩, a7⟩, -⟩, a8⟩ := h
  refine ⟨wat_in a1, wat_in a2, a3, ⟨a4, a5⟩, a6, Nat.le_of_ble_eq_true a7, fun hk => ?_, fun hk => ?_, fun k hk => ?_⟩
  · rw [hk] at a8
    simp only [Bool.and_eq_true, decide_eq_true_eq] at a8
    exact ⟨a8.1, wat_in a8.2⟩
  · rw [hk] at a8
    simp only [Bool.and_eq_true, decide_eq_true_eq] at a8
    exact ⟨a8.1.1.1, wat_in a8.1.1.2, a8.1.2, a8.2⟩
  · rw [hk] at a8
    simp only [Bool.and_eq_true, decide_eq_true_eq] at a8
    exact ⟨a8.1.1.1, wat_in a8.1.1.2, wat_in a8.1.2, a8.2⟩
/-- soundness at fuel n: of a walk in any method -/
def Snd (l : Launch) (D : va_G) (b g0 g1 n : Nat) : Prop := ∀ (mi : MI) (code : List Ent) (L : Lv) (st : List Value) (h : Hp) (r : Option Value) (h' : Hp), sm_run MT n mi code L st h = some (r, h') → OkC mi (mP mi) → OkC mi code →
  ∀ (p : Program) (env : Env) (R : Room) (s : State) (m : MethodId) (args : Array Value) (below : List Frame) (meth : Method) (c : Code) (H : Heap) (locs : List Loc) (cells slots : Nat) (Q : State → Prop) (ls : Array Slot), Cx D b g0 g1 p R s m args meth c mi → Rp D b g0 g1 s h H → LRp L ls → L.length = mL mi → (∀ v ∈ st, v.category = 1) → va_S (fun q => b ≤ q) s.heap H locs → cells + (sz h' - sz h) ≤ R.cells → slots + (sl h' - sl h) ≤ R.slots →
  (∀ (H1 : Heap) (locs1 : List Loc) (ls1 : Array Slot) (pc : Nat) (ins : Instr) (st1 : List Value), Rp D b g0 g1 s h' H1 → va_S (fun q => b ≤ q) s.heap H1 locs1 → decode (mC mi) pc = .ok (ins, 1) → RetOk mi ins st1 r → W p l env R s m args below meth c H1 locs1 (cells + (sz h' - sz h)) (slots + (sl h' - sl h)) Q (F0 m pc ls1 st1)) →
  W p l env R s m args below meth c H locs cells slots Q (F0 m (pcOf code) ls st)
/-- a method's contract out of its run -/
theorem snd_met {l : Launch} {D : va_G} {b g0 g1 n : Nat} (ih : Snd l D b g0 g1 n) {m' : MI} {As : List Value} {h h' : Hp} {r : Option Value} {q : Nat × Nat × Nat × Nat} (hok : okY m' q = true) (hg : GoodM m') (hcat : ∀ v ∈ As, v.category = 1) (hlen : As.length ≤ mL m') (hrun : sm_run MT n m' (mP m') (sm_l0 m' As) [] h = some (r, h')) :
    Met l (mY m') (Cond.code (mY m') (mC m') (mL m') (mR m') :: bw) { frames := mF m', cells := sz h' - sz h, slots := sl h' - sl h, locals := mO m' } (mPc D b g0 g1 As h) (mQc D b g0 g1 r h') (sz h' - sz h) (sl h' - sl h) (fun q => b ≤ q) := by
  obtain ⟨y1, y2, y3, y4, y5, y6, y7, y8, y9⟩ := okY_facts hok
  refine Met.ofW (cc := mC m') (maxL := mL m') (ret := mR m') y5 rfl ?_
  intro p env s m args below meth c s₁ B hml hv
  obtain ⟨rfl, hR, hKx, hbs⟩ := hv
  have hx := B.exec
  have hb := B.bytes
  have hr := B.returns
  have hts := atoms_spec (ws := Cond.code (mY m') (mC m') (mL m') (mR m') :: bw) B.pre
  have hown : s.vm.findClass (mY m').cls = some m.cls := findClass_of_methodNamed B.named
  have hlocks := B.notSynchronized
  have hin := (name_of_methodNamed B.named B.method).1
  rw [entry_eq m As hcat (mL m')]
  obtain ⟨hL, hLl⟩ := l0_LRp hcat hlen
  have hpc := hg.2.1
  have Cc : Cx D b g0 g1 p ({ frames := mF m', cells := sz h' - sz h, slots := sl h' - sl h, locals := mO m' } : Room) s m As.toArray meth c m' := ⟨hx, hb, hml, by rw [← y3]; exact hown, fun w hw => hts w (List.mem_cons_of_mem _ hw), hKx, hbs, Nat.le_refl _, Nat.le_refl _, fun hk => hin.trans (y8 hk).2.2.1⟩
  have key := ih m' (mP m') (sm_l0 m' As) [] h r h' hrun hg.1 hg.1 p env { frames := mF m', cells := sz h' - sz h, slots := sl h' - sl h, locals := mO m' } s m As.toArray below meth c s.heap [] 0 0 (MQ below (mQc D b g0 g1 r h') As.toArray s (sz h' - sz h) (sl h' - sl h) (fun q => b ≤ q)) _ Cc hR hL hLl (fun v hv => by cases hv) va_S.rf (by rw [Nat.zero_add]; exact Nat.le_refl _) (by rw [Nat.zero_add]; exact Nat.le_refl _) ?_
  · rw [hpc] at key
    exact key
  · intro H1 locs1 ls1 pc ins st1 hR1 hS1 hdg hret
    rw [Nat.zero_add, Nat.zero_add]
    rcases hret with ⟨rfl, rfl, e3, rfl⟩ | ⟨rfl, x, rfl, rfl, e3⟩ | ⟨rfl, v, rfl, rfl, e3⟩
    · exact W.vret hx hb (hr.trans e3) (fun t ht hW => ⟨rfl, by rw [ht]; exact hR1.moved hW.alike, hS1.F ht⟩) hS1.2.2 hdg
    · rcases e3 with e3 | ⟨e3, e4⟩
      · exact W.iret hx hb (hr.trans e3) (fun t ht hW => ⟨rfl, by rw [ht]; exact hR1.moved hW.alike, hS1.F ht⟩) hS1.2.2 hdg
      · exact W.zret hx hb (hr.trans e3) (by rcases e4 with rfl | rfl <;> rfl) (fun t ht hW => ⟨rfl, by rw [ht]; exact hR1.moved hW.alike, hS1.F ht⟩) hS1.2.2 hdg
    · have hv : va_rf v = .null ∨ ∃ a, va_rf v = .ref a := by
        cases v with
        | none => exact Or.inl rfl
        | some a => exact Or.inr ⟨a, rfl⟩
      rcases e3 with ⟨k, e3⟩ | ⟨k, e3⟩
      · exact W.aret hx hb (hr.trans e3) (Or.inl ⟨_, rfl⟩) hv (fun t ht hW => ⟨rfl, by rw [ht]; exact hR1.moved hW.alike, hS1.F ht⟩) hS1.2.2 hdg
      · exact W.aret hx hb (hr.trans e3) (Or.inr ⟨_, rfl⟩) hv (fun t ht hW => ⟨rfl, by rw [ht]; exact hR1.moved hW.alike, hS1.F ht⟩) hS1.2.2 hdg
end
section
theorem run_cat : ∀ (n : Nat) (mi : MI) (code : List Ent) (L : Lv) (st : List Value) (h : Hp) (r : Option Value) (h' : Hp), sm_run MT n mi code L st h = some (r, h') → ∀ v ∈ r.toList, v.category = 1 := by
  intro n
  induction n with
  | zero => intro mi code L st h r h' hs; cases hs
  | succ n ih =>
    intro mi code L st h r h' hs
    cases code with
    | nil => cases hs
    | cons e code =>
      unfold sm_run at hs
      split at hs
      · split at hs
        · exact ih _ _ _ _ _ _ _ hs
        · cases hs
      · split at hs
        · split at hs
          · split at hs
            · exact ih _ _ _ _ _ _ _ hs
            · cases hs
          · cases hs
        · cases hs
      · obtain ⟨-, h1⟩ := ret_spec hs
        rcases h1 with ⟨-, -, -, rfl⟩ | ⟨-, x, -, rfl, -⟩ | ⟨-, x, -, rfl, -⟩
        · intro v hv; cases hv
        · intro v hv
          simp at hv
          rw [hv]; rfl
        · intro v hv
          simp at hv
          rw [hv]; exact cat_rf x
      · cases hs
theorem good_bw {ws : List Cond} {m : MI} (hc : Cond.code (mY m) (mC m) (mL m) (mR m) ∈ bw) (h : ∀ w ∈ ws, w ∈ bw) : GoodIn bw (ws ++ (Cond.code (mY m) (mC m) (mL m) (mR m) :: bw)) := by
  intro w hw
  rcases List.mem_append.mp hw with hw | hw
  · exact ⟨h w hw, good_of_word (List.mem_filter.mp (h w hw)).2⟩
  · exact bw_good hc w hw
theorem par_n {d : String} {n k : Nat} (h : (parseMethodDescriptor d).map (fun d => d.parameters.length + 1) = some n) (hk : n = k + 1) : (parseMethodDescriptor d).map (fun d => d.parameters.length) = some k := by
  cases hp : parseMethodDescriptor d with
  | none => rw [hp] at h; cases h
  | some x =>
    rw [hp] at h
    have h2 : x.parameters.length + 1 = n := Option.some.inj h
    show some x.parameters.length = some k
    rw [show x.parameters.length = k by omega]
theorem snd_call {l : Launch} {D : va_G} {b g0 g1 n : Nat} (ih : Snd l D b g0 g1 n) (hgood : ∀ k m, k < 145 → MT[k]? = some m → GoodM m) {mi m' : MI} {pc len x1 x2 x3 : Nat} {ins : Instr} (hdg : decode (mC mi) pc = .ok (ins, len)) (hI : ckI mi (pc, ins, len, x1, x2, x3) = true) (hx1 : x1 < 1000) (hins : (∃ k, ins = .invokespecial k) ∨ (∃ k, ins = .invokevirtual k) ∨ (∃ k, ins = .invokestatic k)) (hm' : MT[x1]? = some m')
    {st : List Value} {h h1 : Hp} {r1 : Option Value} (hn : mN m' ≤ st.length) (hrl : (st.drop (mN m')).length ≤ 8) (hrcv : sm_rcv m' (st.take (mN m')).reverse h = true) (hrun : sm_run MT n m' (mP m') (sm_l0 m' (st.take (mN m')).reverse) [] h = some (r1, h1)) (hst : ∀ v ∈ st, v.category = 1)
    {p : Program} {env : Env} {R : Room} {s : State} {m : MethodId} {args : Array Value} {below : List Frame} {meth : Method} {c : Code} {H : Heap} {locs : List Loc} {cells slots : Nat} {Q : State → Prop} {ls : Array Slot} (C : Cx D b g0 g1 p R s m args meth c mi) (hR : Rp D b g0 g1 s h H) (hlsz : ls.size = mL mi) (hS0 : va_S (fun q => b ≤ q) s.heap H locs) (hcells : cells + (sz h1 - sz h) ≤ R.cells) (hslots : slots + (sl h1 - sl h) ≤ R.slots)
    (kk : ∀ (H1 : Heap) (locs1 : List Loc), Rp D b g0 g1 s h1 H1 → va_S (fun q => b ≤ q) s.heap H1 locs1 → W p l env R s m args below meth c H1 locs1 (cells + (sz h1 - sz h)) (slots + (sl h1 - sl h)) Q (F0 m (pc + len) ls (r1.toList ++ st.drop (mN m')))) :
    W p l env R s m args below meth c H locs cells slots Q (F0 m pc ls st) := by
  obtain ⟨hx, hb, hml, hown, hts, hKx, hbs, hf1, hf2, -⟩ := id C
  generalize hAs : (st.take (mN m')).reverse = As at hrcv hrun
  generalize hrest : st.drop (mN m') = rest at hrl kk
  have hst2 : st = As.reverse ++ rest := by rw [← hAs, ← hrest, List.reverse_reverse, List.take_append_drop]
  have hAl : As.length = mN m' := by rw [← hAs, List.length_reverse, List.length_take]; omega
  have hcA : ∀ v ∈ As, v.category = 1 := fun v hv => hst v (by rw [hst2]; exact List.mem_append_left _ (List.mem_reverse.mpr hv))
  have hcR : ∀ v ∈ rest, v.category = 1 := fun v hv => hst v (by rw [hst2]; exact List.mem_append_right _ hv)
  have hroom : (rest.map fun v => v.category).sum ≤ 8 := by rw [cat_sum hcR]; exact hrl
  have hpre : ∀ U : State, U.heap = H → s.WarmedH U.vm → mPc D b g0 g1 As h As.toArray U := fun U hU hW => ⟨rfl, by rw [hU]; exact hR.moved hW.alike, hKx.warm hW hS0 hU, by rw [hU]; exact Nat.le_trans hbs hS0.1⟩
  have S : CallFix p m c (mC mi) (mL mi) s args bw (owN mi) := ⟨hx, hb, hml, hown, hts⟩
  have done : ∀ (k : Nat), x1 < 145 → len = 3 → (∀ (q : Nat × Nat × Nat × Nat), okY m' q = true → Met l (mY m') (Cond.code (mY m') (mC m') (mL m') (mR m') :: bw) { frames := mF m', cells := sz h1 - sz h, slots := sl h1 - sl h, locals := mO m' } (mPc D b g0 g1 As h) (mQc D b g0 g1 r1 h1) (sz h1 - sz h) (sl h1 - sl h) (fun q => b ≤ q) → va_Run p l env R s m args below meth c H locs cells slots (sz h1 - sz h) (sl h1 - sl h) (F0 m pc ls st) rest (mQc D b g0 g1 r1 h1 As.toArray) (fun q => b ≤ q)) → W p l env R s m args below meth c H locs cells slots Q (F0 m pc ls st) := by
    intro k hk h3 hrn
    obtain ⟨q, hq⟩ := MT_get hk hm'
    obtain ⟨-, -, -, -, -, y6, -⟩ := okY_facts hq
    have hM := snd_met ih hq (hgood x1 m' hk hm') hcA (by rw [hAl]; exact y6) hrun
    refine run_call (hrn q hq hM) hS0 fun H1 locs1 hR1 hS1 => ?_
    have := kk H1 locs1 hR1 hS1
    rw [h3] at this
    exact this
  have rooms : ckC mi m' = true → mF m' + 1 ≤ R.frames ∧ 8 + (mL m' + 11) + mO m' ≤ R.locals := by
    intro hc
    unfold ckC at hc
    rw [Bool.and_eq_true] at hc
    have a1 := Nat.le_of_ble_eq_true hc.1
    have a2 := Nat.le_of_ble_eq_true hc.2
    exact ⟨by omega, by omega⟩
  rcases hins with ⟨k, rfl⟩ | ⟨k, rfl⟩ | ⟨k, rfl⟩
  · simp only [ckI, if_pos hx1, hm', Bool.and_eq_true] at hI
    obtain ⟨i1, ⟨i2, i3⟩, i4⟩ := hI
    have e3 := Nat.eq_of_beq_eq_true i1
    subst e3
    have i3 := Nat.eq_of_beq_eq_true i3
    unfold sm_rcv at hrcv
    rw [i3] at hrcv
    simp only at hrcv
    cases hA0 : As with
    | nil => rw [hA0] at hrcv; cases hrcv
    | cons v As' =>
      rw [hA0] at hrcv
      have hva : ∃ a, v = .ref a := by cases v <;> first | exact ⟨_, rfl⟩ | cases hrcv
      obtain ⟨a, rfl⟩ := hva
      have hlen' : mN m' = As'.length + 1 := by rw [← hAl, hA0]; rfl
      have hst3 : st = As'.reverse ++ .ref a :: rest := by rw [hst2, hA0]; simp
      have hpre' : PreS s H (mPc D b g0 g1 As h) (.ref a :: As') := ⟨mPc_blind, by rw [← hA0]; exact hpre⟩
      have hx3 : x3 = 1 ∨ x3 = 3 := by
        split at i2
        · exact Or.inl rfl
        · exact Or.inr rfl
        · cases i2
      rcases hx3 with rfl | rfl
      · simp only [decide_eq_true_eq] at i2
        obtain ⟨m2, t1, t2, -⟩ := tM_get i2
        cases hm'.symm.trans t1
        refine done 0 (tM_lt' i2) rfl fun q hq hM => ?_
        obtain ⟨y1, y2, y3, y4, y5, y6, y7, y8, y9⟩ := okY_facts hq
        obtain ⟨z1, z2, z3, z4⟩ := y8 i3
        rw [z4] at hM
        have hG := bw_good y1
        rw [z4] at hG
        rw [hA0]
        exact va_runI (As := As') (rest := rest) (b := a) (g := F0 m pc ls st) S hM (cwI As'.length hts hG rfl rfl rfl (hts _ y2) (hts _ (t2 rfl)) (hts _ z2) z3 ⟨y4.1, y4.2, par_n z1 hlen'⟩ (rooms i4)) hpre' rfl rfl hlsz hst3 (lv_room hroom) hdg ⟨hcells, hslots⟩
      · simp only [decide_eq_true_eq] at i2
        obtain ⟨m2, t1, -, t2⟩ := tM_get i2
        cases hm'.symm.trans t1
        refine done 0 (tM_lt' i2) rfl fun q hq hM => ?_
        obtain ⟨y1, y2, y3, y4, y5, y6, y7, y8, y9⟩ := okY_facts hq
        obtain ⟨z1, z2, z3, z4⟩ := y8 i3
        rw [z4] at hM
        have hG := bw_good y1
        rw [z4] at hG
        rw [hA0]
        exact va_runIN (As := As') (rest := rest) (b := a) (g := F0 m pc ls st) S hM ⟨va_cnB As'.length hts hG rfl rfl rfl (hKx.2.1 _ (t2 rfl) rfl) (hts _ y2) ⟨y4.1, y4.2, par_n z1 hlen'⟩ (rooms i4), z3, hts _ z2⟩ hpre' rfl rfl hlsz hst3 (lv_room hroom) hdg ⟨hcells, hslots⟩
  · simp only [ckI, if_pos hx1, hm', Bool.and_eq_true, decide_eq_true_eq] at hI
    obtain ⟨i1, ⟨i2, i3⟩, i4⟩ := hI
    have e3 := Nat.eq_of_beq_eq_true i1
    subst e3
    have i3 := Nat.le_of_ble_eq_true i3
    obtain ⟨j, hj⟩ : ∃ j, mK m' = j + 2 := ⟨mK m' - 2, by omega⟩
    unfold sm_rcv at hrcv
    rw [hj] at hrcv
    simp only at hrcv
    cases hA0 : As with
    | nil => rw [hA0] at hrcv; cases hrcv
    | cons v As' =>
      rw [hA0] at hrcv
      have hva : ∃ a, v = .ref a := by cases v <;> first | exact ⟨_, rfl⟩ | cases hrcv
      obtain ⟨a, rfl⟩ := hva
      have hka : kd h a = j + 1 := Nat.eq_of_beq_eq_true hrcv
      have hlen' : mN m' = As'.length + 1 := by rw [← hAl, hA0]; rfl
      have hst3 : st = As'.reverse ++ .ref a :: rest := by rw [hst2, hA0]; simp
      obtain ⟨m2, t1, t2, -⟩ := tM_get i2
      cases hm'.symm.trans t1
      refine done 0 (tM_lt' i2) rfl fun q hq hM => ?_
      obtain ⟨y1, y2, y3, y4, y5, y6, y7, y8, y9⟩ := okY_facts hq
      obtain ⟨z1, z2, z3, z4⟩ := y9 j hj
      have hrc : ∃ cell : Cell, H[a]? = some cell ∧ cell.vm.isStatics = false ∧ s.vm.findClass (mY m').cls = some cell.cls := by
        cases hw : wc[j]? with
        | none => rw [hw] at z4; cases z4
        | some q' =>
          rw [hw] at z4
          have e1 : q'.1 = (mY m').cls := Option.some.inj z4
          rw [← e1]
          exact hR.recv hKx.1 hka (by omega) hw
      have hT : GoodIn bw (wsV (owN mi) k (mY m').cls (mY m') (Cond.code (mY m') (mC m') (mL m') (mR m') :: bw)) := good_bw y1 (by
        intro w hw
        simp only [List.mem_cons, List.not_mem_nil, or_false] at hw
        rcases hw with rfl | rfl | rfl | rfl
        · exact t2 rfl
        · exact z2
        · exact z3
        · exact y2)
      rw [hA0]
      exact va_runV (As := As') (rest := rest) (b := a) (g := F0 m pc ls st) S hM (cwV As'.length hts hT rfl rfl rfl ⟨rfl, y4.1, y4.2, par_n z1 hlen'⟩ (rooms i4)) ⟨mPc_blind, hrc, by rw [← hA0]; exact hpre⟩ rfl rfl hlsz hst3 (lv_room hroom) hdg ⟨hcells, hslots⟩
  · simp only [ckI, if_pos hx1, hm', Bool.and_eq_true, decide_eq_true_eq] at hI
    obtain ⟨i1, ⟨i2, i3⟩, i4⟩ := hI
    have e3 := Nat.eq_of_beq_eq_true i1
    subst e3
    have i3 := Nat.eq_of_beq_eq_true i3
    obtain ⟨m2, t1, t2, -⟩ := tM_get i2
    cases hm'.symm.trans t1
    refine done 0 (tM_lt' i2) rfl fun q hq hM => ?_
    obtain ⟨y1, y2, y3, y4, y5, y6, y7, y8, y9⟩ := okY_facts hq
    obtain ⟨z1, z2⟩ := y7 i3
    have hT : GoodIn bw (va_wsS (owN mi) k (mY m') (Cond.code (mY m') (mC m') (mL m') (mR m') :: bw)) := good_bw y1 (by
      intro w hw
      simp only [List.mem_cons, List.not_mem_nil, or_false] at hw
      rcases hw with rfl | rfl | rfl
      · exact t2 rfl
      · exact z2
      · exact y2)
    exact va_runS (As := As) (rest := rest) (g := F0 m pc ls st) S hM (va_cwS As.length hts hT rfl rfl rfl ⟨y4.1, y4.2, by rw [hAl]; exact z1⟩ (rooms i4)) ⟨mPc_blind, hpre⟩ rfl rfl hlsz hst2 (lv_room hroom) hdg ⟨hcells, hslots⟩
theorem sm_sound {l : Launch} {D : va_G} {b g0 g1 : Nat} (hgood : ∀ k m, k < 145 → MT[k]? = some m → GoodM m) : ∀ n, Snd l D b g0 g1 n := by
  intro n
  induction n with
  | zero => intro mi code L st h r h' hs; cases hs
  | succ n ih =>
    intro mi code L st h r h' hs hP hC p env R s m args below meth c H locs cells slots Q ls C hR hL hLl hst hS0 hcells hslots hend
    cases code with
    | nil => cases hs
    | cons e code =>
      obtain ⟨pc, ins, len, x1, x2, x3⟩ := e
      have hck := hC.1 _ List.mem_cons_self
      have hne3 : sm_cls (pc, ins, len, x1, x2, x3) ≠ 3 := by
        intro z
        unfold sm_run at hs
        rw [z] at hs
        cases hs
      obtain ⟨hdg, hI⟩ := cls0 hne3 hck
      have hnx : code ≠ [] → pcOf code = pc + len := fun hne => hC.next hne
      unfold sm_run at hs
      split at hs
      · rename_i hcl
        split at hs
        · rename_i q hq
          obtain ⟨code1, L1, st1, h1⟩ := q
          obtain ⟨s1, s2⟩ : sz h ≤ sz h1 ∧ sl h ≤ sl h1 := step_mono hq
          obtain ⟨t1, t2⟩ : sz h1 ≤ sz h' ∧ sl h1 ≤ sl h' := run_mono _ _ _ _ _ _ _ _ hs
          have hne1 : code1 ≠ [] := by
            intro z
            rw [z] at hs
            cases n <;> cases hs
          have hC1 : OkC mi code1 := by
            rcases step_code hq with rfl | ⟨t, rfl⟩
            · exact hC.tail
            · exact hP.seek t
          refine st_all C hdg hI hnx hq hne1 hR hL hLl hst hS0 (fun H1 locs1 ls1 hR1 hL1 hS1 hcat1 hlen1 => ?_) (by omega) (by omega) hcl
          refine ih mi code1 L1 st1 h1 r h' hs hP hC1 p env R s m args below meth c H1 locs1 _ _ Q ls1 C hR1 hL1 hlen1 hcat1 hS1 (by omega) (by omega) (fun H2 locs2 ls2 pc2 ins2 st2 a1 a2 a3 a4 => ?_)
          have := hend H2 locs2 ls2 pc2 ins2 st2 a1 a2 a3 a4
          rw [show cells + (sz h1 - sz h) + (sz h' - sz h1) = cells + (sz h' - sz h) by omega, show slots + (sl h1 - sl h) + (sl h' - sl h1) = slots + (sl h' - sl h) by omega]
          exact this
        · cases hs
      · rename_i hcl
        split at hs
        · rename_i m' hm'
          split at hs
          · rename_i hcond
            obtain ⟨c1, c2, c3⟩ := hcond
            split at hs
            · rename_i q hq
              obtain ⟨r1, h1⟩ := q
              obtain ⟨s1, s2⟩ : sz h ≤ sz h1 ∧ sl h ≤ sl h1 := run_mono _ _ _ _ _ _ _ _ hq
              obtain ⟨t1, t2⟩ : sz h1 ≤ sz h' ∧ sl h1 ≤ sl h' := run_mono _ _ _ _ _ _ _ _ hs
              have hne1 : code ≠ [] := by
                intro z
                rw [z] at hs
                cases n <;> cases hs
              have hkind : x1 < 1000 ∧ ((∃ k, ins = .invokespecial k) ∨ (∃ k, ins = .invokevirtual k) ∨ (∃ k, ins = .invokestatic k)) := by
                unfold sm_cls at hcl
                split at hcl
                · cases hcl
                · split at hcl <;> rename_i hi <;> first | (simp at hcl; done) | (refine ⟨by by_cases hz : x1 < 1000 <;> simp_all, ?_⟩; first | exact Or.inl ⟨_, hi⟩ | exact Or.inr (Or.inl ⟨_, hi⟩) | exact Or.inr (Or.inr ⟨_, hi⟩))
              refine snd_call ih hgood hdg hI hkind.1 hkind.2 hm' c1 c2 c3 hq hst C hR (hL.1.trans hLl) hS0 (by omega) (by omega) (fun H1 locs1 hR1 hS1 => ?_)
              have hcat1 : ∀ v ∈ r1.toList ++ st.drop (mN m'), v.category = 1 := by
                intro v hv
                rcases List.mem_append.mp hv with hv | hv
                · exact run_cat _ _ _ _ _ _ _ _ hq v hv
                · exact hst v (List.mem_of_mem_drop hv)
              rw [← hnx hne1]
              refine ih mi code L _ h1 r h' hs hP hC.tail p env R s m args below meth c H1 locs1 _ _ Q ls C hR1 hL hLl hcat1 hS1 (by omega) (by omega) (fun H2 locs2 ls2 pc2 ins2 st2 a1 a2 a3 a4 => ?_)
              have := hend H2 locs2 ls2 pc2 ins2 st2 a1 a2 a3 a4
              rw [show cells + (sz h1 - sz h) + (sz h' - sz h1) = cells + (sz h' - sz h) by omega, show slots + (sl h1 - sl h) + (sl h' - sl h1) = slots + (sl h' - sl h) by omega]
              exact this
            · cases hs
          · cases hs
        · cases hs
      · rename_i hcl
        obtain ⟨rfl, hr⟩ := ret_spec hs
        have hlen1 : len = 1 := by
          have key : ∀ i, ins = i → (i = .return_ ∨ i = .ireturn ∨ i = .areturn) → len = 1 := by
            intro i hi hh
            subst hi
            rcases hh with rfl | rfl | rfl <;> exact Nat.eq_of_beq_eq_true hI
          rcases hr with ⟨h1, -⟩ | ⟨h1, -⟩ | ⟨h1, -⟩
          · exact key _ h1 (Or.inl rfl)
          · exact key _ h1 (Or.inr (Or.inl rfl))
          · exact key _ h1 (Or.inr (Or.inr rfl))
        subst hlen1
        have := hend H locs ls pc ins st hR hS0 hdg hr
        rw [Nat.sub_self, Nat.sub_self] at this
        exact this
      · cases hs
end
section
theorem ckA_0 : ∀ m ∈ [M_X0_init, M_X1_init, M_X1_covers, M_X1_raiseTo, M_X2_init, M_X3_init, M_X3_init_, M_X4_init, M_X4_hasGreaterMarkThan, M_X4_isOfSameElementAs, M_X5_init, M_X5_hasMostOperations, M_X5_ownClock, M_X5_elementBits, M_X5_begin, M_X5_receive, M_X5_isWaiting, M_X5_finishWaiting, M_X5_firstReady, M_X5_isReady, M_X5_finish, M_X5_apply, M_X5_dropPutsBefore, M_X5_keepGreaterMark, M_X5_isDoneEverywhere, M_X5_shortenLog, M_X6_init, M_X6_lettersEver, M_X6_lettersThere], ckM m = true := List.forall_mem_cons.mpr ⟨ck_X0_init, List.forall_mem_cons.mpr ⟨ck_X1_init, List.forall_mem_cons.mpr ⟨ck_X1_covers, List.forall_mem_cons.mpr ⟨ck_X1_raiseTo, List.forall_mem_cons.mpr ⟨ck_X2_init, List.forall_mem_cons.mpr ⟨ck_X3_init, List.forall_mem_cons.mpr ⟨ck_X3_init_, List.forall_mem_cons.mpr ⟨ck_X4_init, List.forall_mem_cons.mpr ⟨ck_X4_hasGreaterMarkThan, List.forall_mem_cons.mpr ⟨ck_X4_isOfSameElementAs, List.forall_mem_cons.mpr ⟨ck_X5_init, List.forall_mem_cons.mpr ⟨ck_X5_hasMostOperations, List.forall_mem_cons.mpr ⟨ck_X5_ownClock, List.forall_mem_cons.mpr ⟨ck_X5_elementBits, List.forall_mem_cons.mpr ⟨ck_X5_begin, List.forall_mem_cons.mpr ⟨ck_X5_receive, List.forall_mem_cons.mpr ⟨ck_X5_isWaiting, List.forall_mem_cons.mpr ⟨ck_X5_finishWaiting, List.forall_mem_cons.mpr ⟨ck_X5_firstReady, List.forall_mem_cons.mpr ⟨ck_X5_isReady, List.forall_mem_cons.mpr ⟨ck_X5_finish, List.forall_mem_cons.mpr ⟨ck_X5_apply, List.forall_mem_cons.mpr ⟨ck_X5_dropPutsBefore, List.forall_mem_cons.mpr ⟨ck_X5_keepGreaterMark, List.forall_mem_cons.mpr ⟨ck_X5_isDoneEverywhere, List.forall_mem_cons.mpr ⟨ck_X5_shortenLog, List.forall_mem_cons.mpr ⟨ck_X6_init, List.forall_mem_cons.mpr ⟨ck_X6_lettersEver, List.forall_mem_cons.mpr ⟨ck_X6_lettersThere, fun _ h => absurd h List.not_mem_nil⟩⟩⟩⟩⟩⟩⟩⟩⟩⟩⟩⟩⟩⟩⟩⟩⟩⟩⟩⟩⟩⟩⟩⟩⟩⟩⟩⟩⟩
theorem ckA_1 : ∀ m ∈ [M_X6_letterAt, M_X6_bringIn, M_X6_bringOut, M_X6_letterOf, M_X7_init, M_X7_isFull, M_X7_send, M_X8_init, M_X8_add, M_X8_put, M_X8_take, M_X8_write, M_X8_insert, M_X8_remove, M_X8_deliver, M_X8_copy, M_X8_lose, M_X8_ask, M_X8_tell, M_X8_power, M_X8_counter, M_X8_has, M_X8_size, M_X8_register, M_X8_length, M_X8_character, M_X8_clock, M_X8_knows, M_X8_count], ckM m = true := List.forall_mem_cons.mpr ⟨ck_X6_letterAt, List.forall_mem_cons.mpr ⟨ck_X6_bringIn, List.forall_mem_cons.mpr ⟨ck_X6_bringOut, List.forall_mem_cons.mpr ⟨ck_X6_letterOf, List.forall_mem_cons.mpr ⟨ck_X7_init, List.forall_mem_cons.mpr ⟨ck_X7_isFull, List.forall_mem_cons.mpr ⟨ck_X7_send, List.forall_mem_cons.mpr ⟨ck_X8_init, List.forall_mem_cons.mpr ⟨ck_X8_add, List.forall_mem_cons.mpr ⟨ck_X8_put, List.forall_mem_cons.mpr ⟨ck_X8_take, List.forall_mem_cons.mpr ⟨ck_X8_write, List.forall_mem_cons.mpr ⟨ck_X8_insert, List.forall_mem_cons.mpr ⟨ck_X8_remove, List.forall_mem_cons.mpr ⟨ck_X8_deliver, List.forall_mem_cons.mpr ⟨ck_X8_copy, List.forall_mem_cons.mpr ⟨ck_X8_lose, List.forall_mem_cons.mpr ⟨ck_X8_ask, List.forall_mem_cons.mpr ⟨ck_X8_tell, List.forall_mem_cons.mpr ⟨ck_X8_power, List.forall_mem_cons.mpr ⟨ck_X8_counter, List.forall_mem_cons.mpr ⟨ck_X8_has, List.forall_mem_cons.mpr ⟨ck_X8_size, List.forall_mem_cons.mpr ⟨ck_X8_register, List.forall_mem_cons.mpr ⟨ck_X8_length, List.forall_mem_cons.mpr ⟨ck_X8_character, List.forall_mem_cons.mpr ⟨ck_X8_clock, List.forall_mem_cons.mpr ⟨ck_X8_knows, List.forall_mem_cons.mpr ⟨ck_X8_count, fun _ h => absurd h List.not_mem_nil⟩⟩⟩⟩⟩⟩⟩⟩⟩⟩⟩⟩⟩⟩⟩⟩⟩⟩⟩⟩⟩⟩⟩⟩⟩⟩⟩⟩⟩
theorem ckA_2 : ∀ m ∈ [M_X8_message, M_X8_way, M_X8_isReplica, M_X8_isOfPair, M_X8_isElement, M_X8_isCharacter, M_X8_isWay, M_X8_oneIf, M_X8_isOnWay, M_X8_wayBetween, M_X8_operate, M_X8_sendClock, M_X8_answer, M_X9_init, M_X9_in, M_X9_isReplica, M_X9_isTwo, M_X9_ownerOf, M_X9_numberOf, M_X9_isBefore, M_X9_hasGreaterMark, M_X9_was, M_X9_doOperation, M_X9_newOperation, M_X9_add, M_X9_isElement, M_X9_put, M_X9_take, M_X9_write], ckM m = true := List.forall_mem_cons.mpr ⟨ck_X8_message, List.forall_mem_cons.mpr ⟨ck_X8_way, List.forall_mem_cons.mpr ⟨ck_X8_isReplica, List.forall_mem_cons.mpr ⟨ck_X8_isOfPair, List.forall_mem_cons.mpr ⟨ck_X8_isElement, List.forall_mem_cons.mpr ⟨ck_X8_isCharacter, List.forall_mem_cons.mpr ⟨ck_X8_isWay, List.forall_mem_cons.mpr ⟨ck_X8_oneIf, List.forall_mem_cons.mpr ⟨ck_X8_isOnWay, List.forall_mem_cons.mpr ⟨ck_X8_wayBetween, List.forall_mem_cons.mpr ⟨ck_X8_operate, List.forall_mem_cons.mpr ⟨ck_X8_sendClock, List.forall_mem_cons.mpr ⟨ck_X8_answer, List.forall_mem_cons.mpr ⟨ck_X9_init, List.forall_mem_cons.mpr ⟨ck_X9_in, List.forall_mem_cons.mpr ⟨ck_X9_isReplica, List.forall_mem_cons.mpr ⟨ck_X9_isTwo, List.forall_mem_cons.mpr ⟨ck_X9_ownerOf, List.forall_mem_cons.mpr ⟨ck_X9_numberOf, List.forall_mem_cons.mpr ⟨ck_X9_isBefore, List.forall_mem_cons.mpr ⟨ck_X9_hasGreaterMark, List.forall_mem_cons.mpr ⟨ck_X9_was, List.forall_mem_cons.mpr ⟨ck_X9_doOperation, List.forall_mem_cons.mpr ⟨ck_X9_newOperation, List.forall_mem_cons.mpr ⟨ck_X9_add, List.forall_mem_cons.mpr ⟨ck_X9_isElement, List.forall_mem_cons.mpr ⟨ck_X9_put, List.forall_mem_cons.mpr ⟨ck_X9_take, List.forall_mem_cons.mpr ⟨ck_X9_write, fun _ h => absurd h List.not_mem_nil⟩⟩⟩⟩⟩⟩⟩⟩⟩⟩⟩⟩⟩⟩⟩⟩⟩⟩⟩⟩⟩⟩⟩⟩⟩⟩⟩⟩⟩
theorem ckA_3 : ∀ m ∈ [M_X9_insert, M_X9_remove, M_X9_counter, M_X9_isTaken, M_X9_has, M_X9_size, M_X9_register, M_X9_isRemoved, M_X9_pileUp, M_X9_lay, M_X9_length, M_X9_character, M_X9_isWay, M_X9_isMessage, M_X9_send, M_X9_sendOperation, M_X9_moveMessage, M_X9_drop, M_X9_knowsOf, M_X9_isLogged, M_X9_isReady, M_X9_firstReady, M_X9_isWaiting, M_X9_take_, M_X9_answer, M_X9_deliver, M_X9_copy, M_X9_lose, M_X9_speak], ckM m = true := List.forall_mem_cons.mpr ⟨ck_X9_insert, List.forall_mem_cons.mpr ⟨ck_X9_remove, List.forall_mem_cons.mpr ⟨ck_X9_counter, List.forall_mem_cons.mpr ⟨ck_X9_isTaken, List.forall_mem_cons.mpr ⟨ck_X9_has, List.forall_mem_cons.mpr ⟨ck_X9_size, List.forall_mem_cons.mpr ⟨ck_X9_register, List.forall_mem_cons.mpr ⟨ck_X9_isRemoved, List.forall_mem_cons.mpr ⟨ck_X9_pileUp, List.forall_mem_cons.mpr ⟨ck_X9_lay, List.forall_mem_cons.mpr ⟨ck_X9_length, List.forall_mem_cons.mpr ⟨ck_X9_character, List.forall_mem_cons.mpr ⟨ck_X9_isWay, List.forall_mem_cons.mpr ⟨ck_X9_isMessage, List.forall_mem_cons.mpr ⟨ck_X9_send, List.forall_mem_cons.mpr ⟨ck_X9_sendOperation, List.forall_mem_cons.mpr ⟨ck_X9_moveMessage, List.forall_mem_cons.mpr ⟨ck_X9_drop, List.forall_mem_cons.mpr ⟨ck_X9_knowsOf, List.forall_mem_cons.mpr ⟨ck_X9_isLogged, List.forall_mem_cons.mpr ⟨ck_X9_isReady, List.forall_mem_cons.mpr ⟨ck_X9_firstReady, List.forall_mem_cons.mpr ⟨ck_X9_isWaiting, List.forall_mem_cons.mpr ⟨ck_X9_take_, List.forall_mem_cons.mpr ⟨ck_X9_answer, List.forall_mem_cons.mpr ⟨ck_X9_deliver, List.forall_mem_cons.mpr ⟨ck_X9_copy, List.forall_mem_cons.mpr ⟨ck_X9_lose, List.forall_mem_cons.mpr ⟨ck_X9_speak, fun _ h => absurd h List.not_mem_nil⟩⟩⟩⟩⟩⟩⟩⟩⟩⟩⟩⟩⟩⟩⟩⟩⟩⟩⟩⟩⟩⟩⟩⟩⟩⟩⟩⟩⟩
theorem ckA_4 : ∀ m ∈ [M_X9_ask, M_X9_tell, M_X9_power, M_X9_clock, M_X9_knows, M_X9_charactersOf, M_X9_count, M_X9_message, M_X9_way, M_J6_bitCount_0f7a4, M_Jxa1e45_init_da8c8, M_Jxc12de_init_da8c8, M_AL_init_da8c8, M_AL_grow_92f84, M_AL_grow_d5877, M_AL_size_8abf5, M_AL_isEmpty_aae02, M_AL_elementData_915e3, M_AL_get_915e3, M_AL_add_72be8, M_AL_add_9ea2d, M_AL_remove_915e3, M_AL_fastRemove_b59b0, M_J7_copyOf_1904c, M_J7_copyOf_6403c, M_J15_checkIndex_7cf53, M_J8_newLength_cabcc, M_J8_hugeLength_7cf53, M_J3_checkIndex_8e157], ckM m = true := List.forall_mem_cons.mpr ⟨ck_X9_ask, List.forall_mem_cons.mpr ⟨ck_X9_tell, List.forall_mem_cons.mpr ⟨ck_X9_power, List.forall_mem_cons.mpr ⟨ck_X9_clock, List.forall_mem_cons.mpr ⟨ck_X9_knows, List.forall_mem_cons.mpr ⟨ck_X9_charactersOf, List.forall_mem_cons.mpr ⟨ck_X9_count, List.forall_mem_cons.mpr ⟨ck_X9_message, List.forall_mem_cons.mpr ⟨ck_X9_way, List.forall_mem_cons.mpr ⟨ck_J6_bitCount_0f7a4, List.forall_mem_cons.mpr ⟨ck_Jxa1e45_init_da8c8, List.forall_mem_cons.mpr ⟨ck_Jxc12de_init_da8c8, List.forall_mem_cons.mpr ⟨ck_AL_init_da8c8, List.forall_mem_cons.mpr ⟨ck_AL_grow_92f84, List.forall_mem_cons.mpr ⟨ck_AL_grow_d5877, List.forall_mem_cons.mpr ⟨ck_AL_size_8abf5, List.forall_mem_cons.mpr ⟨ck_AL_isEmpty_aae02, List.forall_mem_cons.mpr ⟨ck_AL_elementData_915e3, List.forall_mem_cons.mpr ⟨ck_AL_get_915e3, List.forall_mem_cons.mpr ⟨ck_AL_add_72be8, List.forall_mem_cons.mpr ⟨ck_AL_add_9ea2d, List.forall_mem_cons.mpr ⟨ck_AL_remove_915e3, List.forall_mem_cons.mpr ⟨ck_AL_fastRemove_b59b0, List.forall_mem_cons.mpr ⟨ck_J7_copyOf_1904c, List.forall_mem_cons.mpr ⟨ck_J7_copyOf_6403c, List.forall_mem_cons.mpr ⟨ck_J15_checkIndex_7cf53, List.forall_mem_cons.mpr ⟨ck_J8_newLength_cabcc, List.forall_mem_cons.mpr ⟨ck_J8_hugeLength_7cf53, List.forall_mem_cons.mpr ⟨ck_J3_checkIndex_8e157, fun _ h => absurd h List.not_mem_nil⟩⟩⟩⟩⟩⟩⟩⟩⟩⟩⟩⟩⟩⟩⟩⟩⟩⟩⟩⟩⟩⟩⟩⟩⟩⟩⟩⟩⟩
theorem ck_good : ∀ k m, k < 145 → MT[k]? = some m → GoodM m := by
  intro k m hk hm
  have h1 : m ∈ MT.take 145 := by
    refine List.mem_of_getElem? (i := k) ?_
    rw [List.getElem?_take, if_pos hk]
    exact hm
  have h2 : MT.take 145 = [M_X0_init, M_X1_init, M_X1_covers, M_X1_raiseTo, M_X2_init, M_X3_init, M_X3_init_, M_X4_init, M_X4_hasGreaterMarkThan, M_X4_isOfSameElementAs, M_X5_init, M_X5_hasMostOperations, M_X5_ownClock, M_X5_elementBits, M_X5_begin, M_X5_receive, M_X5_isWaiting, M_X5_finishWaiting, M_X5_firstReady, M_X5_isReady, M_X5_finish, M_X5_apply, M_X5_dropPutsBefore, M_X5_keepGreaterMark, M_X5_isDoneEverywhere, M_X5_shortenLog, M_X6_init, M_X6_lettersEver, M_X6_lettersThere] ++ ([M_X6_letterAt, M_X6_bringIn, M_X6_bringOut, M_X6_letterOf, M_X7_init, M_X7_isFull, M_X7_send, M_X8_init, M_X8_add, M_X8_put, M_X8_take, M_X8_write, M_X8_insert, M_X8_remove, M_X8_deliver, M_X8_copy, M_X8_lose, M_X8_ask, M_X8_tell, M_X8_power, M_X8_counter, M_X8_has, M_X8_size, M_X8_register, M_X8_length, M_X8_character, M_X8_clock, M_X8_knows, M_X8_count] ++ ([M_X8_message, M_X8_way, M_X8_isReplica, M_X8_isOfPair, M_X8_isElement, M_X8_isCharacter, M_X8_isWay, M_X8_oneIf, M_X8_isOnWay, M_X8_wayBetween, M_X8_operate, M_X8_sendClock, M_X8_answer, M_X9_init, M_X9_in, M_X9_isReplica, M_X9_isTwo, M_X9_ownerOf, M_X9_numberOf, M_X9_isBefore, M_X9_hasGreaterMark, M_X9_was, M_X9_doOperation, M_X9_newOperation, M_X9_add, M_X9_isElement, M_X9_put, M_X9_take, M_X9_write] ++ ([M_X9_insert, M_X9_remove, M_X9_counter, M_X9_isTaken, M_X9_has, M_X9_size, M_X9_register, M_X9_isRemoved, M_X9_pileUp, M_X9_lay, M_X9_length, M_X9_character, M_X9_isWay, M_X9_isMessage, M_X9_send, M_X9_sendOperation, M_X9_moveMessage, M_X9_drop, M_X9_knowsOf, M_X9_isLogged, M_X9_isReady, M_X9_firstReady, M_X9_isWaiting, M_X9_take_, M_X9_answer, M_X9_deliver, M_X9_copy, M_X9_lose, M_X9_speak] ++ ([M_X9_ask, M_X9_tell, M_X9_power, M_X9_clock, M_X9_knows, M_X9_charactersOf, M_X9_count, M_X9_message, M_X9_way, M_J6_bitCount_0f7a4, M_Jxa1e45_init_da8c8, M_Jxc12de_init_da8c8, M_AL_init_da8c8, M_AL_grow_92f84, M_AL_grow_d5877, M_AL_size_8abf5, M_AL_isEmpty_aae02, M_AL_elementData_915e3, M_AL_get_915e3, M_AL_add_72be8, M_AL_add_9ea2d, M_AL_remove_915e3, M_AL_fastRemove_b59b0, M_J7_copyOf_1904c, M_J7_copyOf_6403c, M_J15_checkIndex_7cf53, M_J8_newLength_cabcc, M_J8_hugeLength_7cf53, M_J3_checkIndex_8e157])))) := rfl
  rw [h2] at h1
  rcases List.mem_append.mp h1 with h1 | h1
  · exact GoodM.of (ckA_0 m h1)
  · rcases List.mem_append.mp h1 with h1 | h1
    · exact GoodM.of (ckA_1 m h1)
    · rcases List.mem_append.mp h1 with h1 | h1
      · exact GoodM.of (ckA_2 m h1)
      · rcases List.mem_append.mp h1 with h1 | h1
        · exact GoodM.of (ckA_3 m h1)
        · exact GoodM.of (ckA_4 m h1)
theorem ckL_0' : k_L_law_0 ≠ [] := by intro h; cases h
end
section
def R_law : String := "ReplicaStoreLaw"
def lw_P (b : Addr) (xs : List Int32) (args : Array Value) (s : State) : Prop := args = #[.ref b] ∧ s.IntsAt b xs ∧ xs.length ≤ 2560 ∧ (Jvm.Cond.and given_1 narrow_1).before args s = true
def lw_Q (_ : Array Value) (s : State) (o : Outcome) (t : State) : Prop := o = .returned (some (.int 1)) ∧ Framed s o t [] 600000 7302250
def lw_Z (below : List Frame) (a : Array Value) (s : State) : State → Prop := fun t => ∃ o, t.status = .running ∧ Ended t below o ∧ lw_Q a s o t
/-- the law's own end, with 1 on the stack, nothing written that was there before, its room as the claim has it -/
theorem lw_ret {p : Program} {l : Launch} {e : Env} {s : State} {m : MethodId} {below : List Frame} {meth : Method} {c : Code} {b : Nat} (hx : p.tables.exec = Jvm.exec) (hb : c.code = code) (hr : meth.sig.returnType = ret) (hlocks : meth.locks = false) {pc : Nat} {H : Heap} {ls : Array Slot} (hdg : decode code pc = .ok (.ireturn, 1)) : W p l e room_1 s m #[Value.ref b] below meth c H [] 600000 7302250 (lw_Z below #[Value.ref b] s) (F0 m pc ls [.int 1]) := by
  intro T hT X
  obtain ⟨fs, hret, hrun, hended, hW, hframe⟩ := X.leave (v := some (.int 1)) (hlocks := hlocks) (fun h => by rw [hr] at h; cases h)
  have hmeth' : T.vm.method? m = some meth := X.method'
  refine ⟨T.setFrames fs, ?_, .returned (some (.int 1)), hrun, hended, rfl, ⟨_, rfl⟩, hW, hframe⟩
  jvm_step X.here [X.here.top, hx, hb, hdg, hmeth', hr, ret, narrow_b1]
  (try refine ⟨rfl, ?_⟩); (try refine ⟨rfl, ?_⟩)
  first | (intro acts; rw [hret _ acts rfl rfl rfl]) | rw [hret _ _ rfl rfl rfl]
  exact Steps.refl _
/-- what holds at the law's entry -/
def lw_At (p : Program) (s : State) (m : MethodId) (meth : Method) (c : Code) (b L : Nat) (xs : Nat → Int32) : Prop :=
  p.tables.exec = Jvm.exec ∧ c.code = code ∧ meth.sig.returnType = ret ∧ c.maxLocals = 4 ∧ s.vm.findClass R_law = some m.cls ∧ (∀ w ∈ lw_tbl, w.before #[Value.ref b] s = true) ∧ va_X b L xs s s.heap ∧ b < s.heap.size ∧ meth.locks = false ∧ (Jvm.Cond.and given_1 narrow_1).before #[Value.ref b] s = true
/-- the small heap at the law's start: the script at bs, the empty array at e0, nothing else -/
def h_start (bs e0 mi L n : Nat) (xs : Nat → Int32) : Hp := ((fun a => if a = bs then 41 else if a = e0 then 42 else 0), (fun a => if a = bs then L else 0), (fun _ _ => 0), (fun _ _ => none), (fun a j => if a = bs then xs j else 0), (fun _ _ => none), (fun k => if k = 0 then e0 else mi), n, 0)
/-- what is to be shown of the small machine alone -/
def LawPure : Prop := ∀ (bs e0 mi L sz0 : Nat) (xs : Nat → Int32), bs < sz0 → e0 < sz0 → bs ≠ e0 → L ≤ 2560 → ∃ (n : Nat) (h' : Hp), sm_run MT n M_L_law k_L_law_0 [some (.ref bs), none, none, none] [] (h_start bs e0 mi L sz0 xs) = some (some (.int 1), h') ∧ sz h' - sz0 ≤ 600000 ∧ sl h' ≤ 7302250
theorem whole_of (hP : LawPure) (hLaw : OkC M_L_law k_L_law_0) {p : Program} {e : Env} {s : State} {m : MethodId} {below : List Frame} {meth : Method} {c : Code} (l : Launch) {b L : Nat} {xs : Nat → Int32} (hL : L ≤ 2560) (C0 : lw_At p s m meth c b L xs) : W p l e room_1 s m #[Value.ref b] below meth c s.heap [] 0 0 (lw_Z below #[Value.ref b] s) (entryFrame m ([Value.ref b] : List Value).toArray 4) := by
  obtain ⟨hx, hb, hr, hml, hown, hts, hX, hbl, hlocks, hgv⟩ := id C0
  have hfl := flat_of_before _ hgv
  have hA : ∀ a : Nat, a < s.heap.size → ¬ (fun q : Nat => s.heap.size ≤ q) a := fun a h => Nat.not_le.mpr h
  obtain ⟨e0, he0, hT⟩ := va_Tof (N := 0) (f := fun _ => .null) (A := fun q : Nat => s.heap.size ≤ q) (by decide) (hfl (Cond.arrayOf (.static "java/util/ArrayList" "DEFAULTCAPACITY_EMPTY_ELEMENTDATA" "[Ljava/lang/Object;") (.object "java/lang/Object")) (by decide +kernel)) (va_eqt (hfl (Cond.eq (.length (.static "java/util/ArrayList" "DEFAULTCAPACITY_EMPTY_ELEMENTDATA" "[Ljava/lang/Object;")) (.int 0)) (by decide +kernel))) (fun j hj => absurd hj (Nat.not_lt_zero j)) hA
  obtain ⟨cellE, t1, t2, t3, -, t5, -, t7⟩ := hT
  have hZ := va_Zof (A := fun q : Nat => s.heap.size ≤ q) (hts _ w_lS) (hts (.initialized "java/util/ArrayList") (by decide +kernel)) he0 hA
  obtain ⟨mi, hM⟩ := va_Mi.of (hfl (Cond.isRef (.mirror "[Ljava/lang/Object;")) (by decide +kernel))
  obtain ⟨scr, x1, x2, x3, x4, x5⟩ := hX
  have hne : b ≠ e0 := by
    intro z
    subst z
    cases t1.symm.trans x1
    obtain ⟨-, k1, hk1, c1, hkk1⟩ := x2
    obtain ⟨-, k2, hk2, c2, hkk2⟩ := t2
    cases hk1.symm.trans hk2
    rw [hkk1] at hkk2
    cases hkk2
  have he0l : e0 < s.heap.size := (Array.getElem?_eq_some_iff.mp t1).1
  have hKnown : ∃ (dC : Nat → ClassId) (dI : Nat → Nat → Nat), ∀ (k : Nat) (q : vw_C), wc[k]? = some q → u_Kn s q.1 q.2.1 q.2.2 (dC k) (dI k) := by
    have h1 : ∀ k : Nat, ∃ (q : ClassId × (Nat → Nat)), ∀ (z : vw_C), wc[k]? = some z → u_Kn s z.1 z.2.1 z.2.2 q.1 q.2 := by
      intro k
      cases hz : wc[k]? with
      | none => exact ⟨(0, fun _ => 0), fun z h => by cases h⟩
      | some z =>
        obtain ⟨w1, -, -, w4, -⟩ := wc_facts hz
        obtain ⟨cC, iS, hk⟩ := u_known (C := z.1) (T := z.2.1) (N := z.2.2) (n := z.2.2) hts (fun w hw => bw_in (w1 w hw)) (hts _ (bw_in w4))
        exact ⟨(cC, iS), fun z' h => by cases h; exact hk⟩
    exact ⟨fun k => (Classical.choose (h1 k)).1, fun k => (Classical.choose (h1 k)).2, fun k q hq => Classical.choose_spec (h1 k) q hq⟩
  obtain ⟨dC, dI, hKn⟩ := hKnown
  have hKx : Kx (dC, dI) s.heap.size e0 mi s := ⟨⟨hKn, fun k q h => by simp at h⟩, fun w hw hs => by
      have hw1 := hts w hw
      cases w <;> first | (simp [isSp] at hs; done) | exact va_Nw.of rfl hw1 | exact va_AO.of hw1 | (rename_i t; cases t <;> first | exact va_AO.of hw1 | (simp [isSp] at hs; done)), hZ, hM⟩
  obtain ⟨n, h', hrun, hsz', hsl'⟩ := hP b e0 mi L s.heap.size xs hbl he0l hne hL
  have hR : Rp (dC, dI) s.heap.size e0 mi s (h_start b e0 mi L s.heap.size xs) s.heap := by
    refine ⟨rfl, Nat.le_refl _, fun a ha => ?_, fun a ha => ?_, rfl, rfl⟩
    · by_cases h1 : a = b
      · subst h1
        refine Or.inr (Or.inr (Or.inl ⟨if_pos rfl, hbl, scr, x1, x2, x3, ?_, fun j hj => ?_⟩))
        · rw [x4]
          exact (if_pos rfl).symm
        · have h2 : ln (h_start a e0 mi L s.heap.size xs) a = L := if_pos rfl
          rw [h2] at hj
          rw [x5 j hj]
          congr 2
          exact (if_pos rfl).symm
      · by_cases h2 : a = e0
        · subst h2
          refine Or.inr (Or.inr (Or.inr ⟨?_, he0l, cellE, t1, t2, t3, ?_⟩))
          · show (if a = b then 41 else if a = a then 42 else 0) = 42
            rw [if_neg h1, if_pos rfl]
          · have h3 : ln (h_start b a mi L s.heap.size xs) a = 0 := if_neg h1
            rw [h3]
            exact t5
        · exact absurd (show (if a = b then 41 else if a = e0 then 42 else 0) = 0 by rw [if_neg h1, if_neg h2]) ha
    · have ha : (if a = b then 41 else if a = e0 then 42 else 0) = 22 := ha
      split at ha
      · cases ha
      · split at ha
        · cases ha
        · cases ha
  have hcat : ∀ v ∈ ([Value.ref b] : List Value), v.category = 1 := by
    intro v hv
    simp at hv
    rw [hv]
    rfl
  rw [entry_eq m [Value.ref b] hcat 4]
  obtain ⟨hLr, hLl⟩ := l0_LRp (m := M_L_law) (As := [Value.ref b]) hcat (show 1 ≤ 4 by decide)
  have Cc : Cx (dC, dI) s.heap.size e0 mi p room_1 s m #[Value.ref b] meth c M_L_law := ⟨hx, hb, hml, hown, fun w hw => hts w (bw_in hw), hKx, Nat.le_refl _, by decide, by decide, fun h => by cases h⟩
  have hsl0 : sl (h_start b e0 mi L s.heap.size xs) = 0 := rfl
  have hsz0 : sz (h_start b e0 mi L s.heap.size xs) = s.heap.size := rfl
  refine sm_sound (l := l) (D := (dC, dI)) (b := s.heap.size) (g0 := e0) (g1 := mi) ck_good n M_L_law k_L_law_0 [some (.ref b), none, none, none] [] _ _ h' hrun hLaw hLaw p e room_1 s m #[Value.ref b] below meth c s.heap [] 0 0 _ _ Cc hR hLr hLl (fun v hv => by cases hv) va_S.rf (by rw [hsz0]; show 0 + _ ≤ 600000; omega) (by rw [hsl0]; show 0 + _ ≤ 7302250; omega) ?_
  intro H1 locs1 ls1 pc ins st1 hR1 hS1 hdg hret
  rcases hret with ⟨rfl, rfl, e3, e4⟩ | ⟨rfl, x, rfl, e4, e3⟩ | ⟨rfl, v, rfl, e4, e3⟩
  · cases e4
  · cases e4
    refine va_forget (fun q hq => hS1.2.2 q hq) ?_
    refine W.widen (k := 600000) (n := 7302250) (by rw [hsz0]; omega) (by rw [hsl0]; omega) ?_
    exact lw_ret hx hb hr hlocks hdg
  · cases v <;> cases e4
end
section
set_option maxRecDepth 100000 in
theorem ckL_0 : ((k_L_law_0.drop 0).take 50).all (ckE M_L_law) = true := by decide +kernel
set_option maxRecDepth 100000 in
theorem ckL_1 : ((k_L_law_0.drop 50).take 50).all (ckE M_L_law) = true := by decide +kernel
set_option maxRecDepth 100000 in
theorem ckL_2 : ((k_L_law_0.drop 100).take 50).all (ckE M_L_law) = true := by decide +kernel
set_option maxRecDepth 100000 in
theorem ckL_3 : ((k_L_law_0.drop 150).take 50).all (ckE M_L_law) = true := by decide +kernel
set_option maxRecDepth 100000 in
theorem ckL_4 : ((k_L_law_0.drop 200).take 50).all (ckE M_L_law) = true := by decide +kernel
end
section
set_option maxRecDepth 100000 in
theorem ckL_5 : ((k_L_law_0.drop 250).take 50).all (ckE M_L_law) = true := by decide +kernel
set_option maxRecDepth 100000 in
theorem ckL_6 : ((k_L_law_0.drop 300).take 50).all (ckE M_L_law) = true := by decide +kernel
set_option maxRecDepth 100000 in
theorem ckL_7 : ((k_L_law_0.drop 350).take 50).all (ckE M_L_law) = true := by decide +kernel
set_option maxRecDepth 100000 in
theorem ckL_8 : ((k_L_law_0.drop 400).take 50).all (ckE M_L_law) = true := by decide +kernel
set_option maxRecDepth 100000 in
theorem ckL_9 : ((k_L_law_0.drop 450).take 50).all (ckE M_L_law) = true := by decide +kernel
end
section
set_option maxRecDepth 100000 in
theorem ckL_10 : ((k_L_law_0.drop 500).take 50).all (ckE M_L_law) = true := by decide +kernel
set_option maxRecDepth 100000 in
theorem ckL_11 : ((k_L_law_0.drop 550).take 50).all (ckE M_L_law) = true := by decide +kernel
set_option maxRecDepth 100000 in
theorem ckL_12 : ((k_L_law_0.drop 600).take 50).all (ckE M_L_law) = true := by decide +kernel
set_option maxRecDepth 100000 in
theorem ckL_13 : ((k_L_law_0.drop 650).take 50).all (ckE M_L_law) = true := by decide +kernel
set_option maxRecDepth 100000 in
theorem ckL_14 : ((k_L_law_0.drop 700).take 50).all (ckE M_L_law) = true := by decide +kernel
end
section
set_option maxRecDepth 100000 in
theorem ckL_15 : ((k_L_law_0.drop 750).take 50).all (ckE M_L_law) = true := by decide +kernel
set_option maxRecDepth 100000 in
theorem ckL_16 : ((k_L_law_0.drop 800).take 50).all (ckE M_L_law) = true := by decide +kernel
set_option maxRecDepth 100000 in
theorem ckL_n : ckN k_L_law_0 = true := by decide +kernel
end
section
/-! REASONING about the small machine: rules as equivalences -/
def Z (m : MI) (code : List Ent) (L : Lv) (st : List Value) (h : Hp) (P : Option Value → Hp → Prop) : Prop := ∃ n r h', sm_run MT n m code L st h = some (r, h') ∧ P r h'
def Ev (m : MI) (As : List Value) (h : Hp) (P : Option Value → Hp → Prop) : Prop := Z m (mP m) (sm_l0 m As) [] h P
theorem run_more1 : ∀ (n : Nat) (m : MI) (code : List Ent) (L : Lv) (st : List Value) (h : Hp) (x : Option Value × Hp), sm_run MT n m code L st h = some x → sm_run MT (n + 1) m code L st h = some x := by
  intro n
  induction n with
  | zero => intro m code L st h x hs; cases hs
  | succ n ih =>
    intro m code L st h x hs
    cases code with
    | nil => cases hs
    | cons e code =>
      unfold sm_run at hs ⊢
      cases hc : sm_cls e with
      | zero =>
        rw [hc] at hs
        simp only at hs ⊢
        cases hq : sm_step m e code L st h with
        | none => rw [hq] at hs; cases hs
        | some q =>
          rw [hq] at hs
          exact ih _ _ _ _ _ _ hs
      | succ k =>
        cases k with
        | zero =>
          rw [hc] at hs
          simp only at hs ⊢
          cases hm : MT[e.2.2.2.1]? with
          | none => rw [hm] at hs; cases hs
          | some m' =>
            rw [hm] at hs
            simp only at hs ⊢
            split at hs
            · rename_i hcond
              rw [if_pos hcond]
              cases hq : sm_run MT n m' (mP m') (sm_l0 m' (st.take (mN m')).reverse) [] h with
              | none => rw [hq] at hs; cases hs
              | some q =>
                rw [hq] at hs
                rw [ih _ _ _ _ _ _ hq]
                exact ih _ _ _ _ _ _ hs
            · cases hs
        | succ k =>
          rw [hc] at hs
          cases k with
          | zero => exact hs
          | succ k => cases hs
theorem run_more {n k : Nat} {m : MI} {code : List Ent} {L : Lv} {st : List Value} {h : Hp} {x : Option Value × Hp} (hs : sm_run MT n m code L st h = some x) : sm_run MT (n + k) m code L st h = some x := by
  induction k with
  | zero => exact hs
  | succ k ih => exact run_more1 _ _ _ _ _ _ _ ih
theorem Z.mono {m : MI} {code : List Ent} {L : Lv} {st : List Value} {h : Hp} {P Q : Option Value → Hp → Prop} (hz : Z m code L st h P) (hpq : ∀ r h', P r h' → Q r h') : Z m code L st h Q := by
  obtain ⟨n, r, h', h1, h2⟩ := hz
  exact ⟨n, r, h', h1, hpq r h' h2⟩
theorem Ev.mono {m : MI} {As : List Value} {h : Hp} {P Q : Option Value → Hp → Prop} (hz : Ev m As h P) (hpq : ∀ r h', P r h' → Q r h') : Ev m As h Q := Z.mono hz hpq
section ZR
variable {m : MI} {code : List Ent} {L : Lv} {st : List Value} {h : Hp} {P : Option Value → Hp → Prop}
theorem Z_go {e : Ent} {code' : List Ent} {L' : Lv} {st' : List Value} {h' : Hp} (hc : sm_cls e = 0) (hs : sm_step m e code L st h = some (code', L', st', h')) : Z m (e :: code) L st h P ↔ Z m code' L' st' h' P := by
  constructor
  · rintro ⟨n, r, h', h1, h2⟩
    cases n with
    | zero => cases h1
    | succ n =>
      unfold sm_run at h1
      rw [hc, hs] at h1
      exact ⟨n, r, h', h1, h2⟩
  · rintro ⟨n, r, h', h1, h2⟩
    refine ⟨n + 1, r, h', ?_, h2⟩
    unfold sm_run
    rw [hc, hs]
    exact h1
theorem Z_no {e : Ent} (hc : sm_cls e = 0) (hs : sm_step m e code L st h = none) : Z m (e :: code) L st h P ↔ False := by
  constructor
  · rintro ⟨n, r, h', h1, h2⟩
    cases n with
    | zero => cases h1
    | succ n =>
      unfold sm_run at h1
      rw [hc, hs] at h1
      cases h1
  · exact False.elim
theorem Z_rt {e : Ent} {r : Option Value} {h1 : Hp} (hc : sm_cls e = 2) (hs : sm_ret m e st h = some (r, h1)) : Z m (e :: code) L st h P ↔ P r h1 := by
  constructor
  · rintro ⟨n, r', h', h3, h2⟩
    cases n with
    | zero => cases h3
    | succ n =>
      unfold sm_run at h3
      rw [hc] at h3
      simp only at h3
      rw [hs] at h3
      cases h3
      exact h2
  · intro h2
    refine ⟨1, r, h1, ?_, h2⟩
    unfold sm_run
    rw [hc]
    exact hs
theorem Z_call {e : Ent} {m' : MI} (hc : sm_cls e = 1) (hm : MT[e.2.2.2.1]? = some m') : Z m (e :: code) L st h P ↔ (mN m' ≤ st.length ∧ (st.drop (mN m')).length ≤ 8 ∧ sm_rcv m' (st.take (mN m')).reverse h = true) ∧ Ev m' (st.take (mN m')).reverse h (fun r h' => Z m code L (r.toList ++ st.drop (mN m')) h' P) := by
  constructor
  · rintro ⟨n, r, h', h1, h2⟩
    cases n with
    | zero => cases h1
    | succ n =>
      unfold sm_run at h1
      rw [hc] at h1
      simp only at h1
      rw [hm] at h1
      simp only at h1
      split at h1
      · rename_i hcond
        refine ⟨hcond, ?_⟩
        cases hq : sm_run MT n m' (mP m') (sm_l0 m' (st.take (mN m')).reverse) [] h with
        | none => rw [hq] at h1; cases h1
        | some q =>
          rw [hq] at h1
          exact ⟨n, q.1, q.2, hq, n, r, h', h1, h2⟩
      · cases h1
  · rintro ⟨hcond, n, r, h1, hq, n2, r2, h2, h3, h4⟩
    refine ⟨n + n2 + 1, r2, h2, ?_, h4⟩
    unfold sm_run
    rw [hc]
    simp only
    rw [hm]
    simp only
    rw [if_pos hcond, run_more hq]
    simp only
    rw [Nat.add_comm n n2]
    exact run_more h3
theorem Z_iconst {pc len a b : Nat} {n : Int} : Z m ((pc, .iconst n, len, a, b, 0) :: code) L st h P ↔ Z m code L (.int (sm_lit a b) :: st) h P := Z_go rfl rfl
theorem Z_bipush {pc len a b : Nat} {n : Int} : Z m ((pc, .bipush n, len, a, b, 0) :: code) L st h P ↔ Z m code L (.int (sm_lit a b) :: st) h P := Z_go rfl rfl
theorem Z_sipush {pc len a b : Nat} {n : Int} : Z m ((pc, .sipush n, len, a, b, 0) :: code) L st h P ↔ Z m code L (.int (sm_lit a b) :: st) h P := Z_go rfl rfl
theorem Z_ldc {pc len a b : Nat} {n : Nat} : Z m ((pc, .ldc n, len, a, b, 0) :: code) L st h P ↔ Z m code L (.int (sm_lit a b) :: st) h P := Z_go rfl rfl
theorem Z_ldcM {pc len a b : Nat} {n : Nat} : Z m ((pc, .ldc n, len, a, b, 1) :: code) L st h P ↔ Z m code L (.ref (gc h 1) :: st) h P := Z_go rfl rfl
theorem Z_ldcw {pc len a b : Nat} {n : Nat} : Z m ((pc, .ldc_w n, len, a, b, 0) :: code) L st h P ↔ Z m code L (.int (sm_lit a b) :: st) h P := Z_go rfl rfl
theorem Z_null {pc len a b : Nat} : Z m ((pc, .aconst_null, len, a, b, 0) :: code) L st h P ↔ Z m code L (.null :: st) h P := Z_go rfl rfl
theorem Z_getstatic {pc len a b : Nat} {n : Nat} : Z m ((pc, .getstatic n, len, a, b, 0) :: code) L st h P ↔ Z m code L (.ref (gc h 0) :: st) h P := Z_go rfl rfl
theorem Z_iload0 {pc len a b : Nat}{x : Int32} : Z m ((pc, .iload_n 0, len, a, b, 0) :: code) (some (.int x) :: L) st h P ↔ Z m code (some (.int x) :: L) (.int x :: st) h P := Z_go rfl rfl
theorem Z_aload0 {pc len a b : Nat}{x : Nat} : Z m ((pc, .aload_n 0, len, a, b, 0) :: code) (some (.ref x) :: L) st h P ↔ Z m code (some (.ref x) :: L) (.ref x :: st) h P := Z_go rfl rfl
theorem Z_aloadq0 {pc len a b : Nat}{x : Option Nat} : Z m ((pc, .aload_n 0, len, a, b, 0) :: code) (some (va_rf x) :: L) st h P ↔ Z m code (some (va_rf x) :: L) (va_rf x :: st) h P := by cases x <;> exact Z_go rfl rfl
theorem Z_aloadn0 {pc len a b : Nat} : Z m ((pc, .aload_n 0, len, a, b, 0) :: code) (some .null :: L) st h P ↔ Z m code (some .null :: L) (.null :: st) h P := Z_go rfl rfl
theorem Z_istore0 {pc len a b : Nat}{o0 : Option Value} {x : Int32} : Z m ((pc, .istore_n 0, len, a, b, 0) :: code) (o0 :: L) (.int x :: st) h P ↔ Z m code (some (.int x) :: L) st h P := Z_go rfl rfl
theorem Z_astore0 {pc len a b : Nat}{o0 : Option Value} {x : Nat} : Z m ((pc, .astore_n 0, len, a, b, 0) :: code) (o0 :: L) (.ref x :: st) h P ↔ Z m code (some (.ref x) :: L) st h P := Z_go rfl rfl
theorem Z_astoreq0 {pc len a b : Nat}{o0 : Option Value} {x : Option Nat} : Z m ((pc, .astore_n 0, len, a, b, 0) :: code) (o0 :: L) (va_rf x :: st) h P ↔ Z m code (some (va_rf x) :: L) st h P := by cases x <;> exact Z_go rfl rfl
theorem Z_astoren0 {pc len a b : Nat}{o0 : Option Value} : Z m ((pc, .astore_n 0, len, a, b, 0) :: code) (o0 :: L) (.null :: st) h P ↔ Z m code (some .null :: L) st h P := Z_go rfl rfl
theorem Z_iinc0 {pc len a b : Nat}{x : Int32} {n : Int} : Z m ((pc, .iinc 0 n, len, a, b, 0) :: code) (some (.int x) :: L) st h P ↔ Z m code (some (.int (x + sm_lit a b)) :: L) st h P := Z_go rfl rfl
theorem Z_iload1 {pc len a b : Nat}{l0 : Option Value} {x : Int32} : Z m ((pc, .iload_n 1, len, a, b, 0) :: code) (l0 :: some (.int x) :: L) st h P ↔ Z m code (l0 :: some (.int x) :: L) (.int x :: st) h P := Z_go rfl rfl
theorem Z_aload1 {pc len a b : Nat}{l0 : Option Value} {x : Nat} : Z m ((pc, .aload_n 1, len, a, b, 0) :: code) (l0 :: some (.ref x) :: L) st h P ↔ Z m code (l0 :: some (.ref x) :: L) (.ref x :: st) h P := Z_go rfl rfl
theorem Z_aloadq1 {pc len a b : Nat}{l0 : Option Value} {x : Option Nat} : Z m ((pc, .aload_n 1, len, a, b, 0) :: code) (l0 :: some (va_rf x) :: L) st h P ↔ Z m code (l0 :: some (va_rf x) :: L) (va_rf x :: st) h P := by cases x <;> exact Z_go rfl rfl
theorem Z_aloadn1 {pc len a b : Nat}{l0 : Option Value}  : Z m ((pc, .aload_n 1, len, a, b, 0) :: code) (l0 :: some .null :: L) st h P ↔ Z m code (l0 :: some .null :: L) (.null :: st) h P := Z_go rfl rfl
theorem Z_istore1 {pc len a b : Nat}{l0 : Option Value} {o0 : Option Value} {x : Int32} : Z m ((pc, .istore_n 1, len, a, b, 0) :: code) (l0 :: o0 :: L) (.int x :: st) h P ↔ Z m code (l0 :: some (.int x) :: L) st h P := Z_go rfl rfl
theorem Z_astore1 {pc len a b : Nat}{l0 : Option Value} {o0 : Option Value} {x : Nat} : Z m ((pc, .astore_n 1, len, a, b, 0) :: code) (l0 :: o0 :: L) (.ref x :: st) h P ↔ Z m code (l0 :: some (.ref x) :: L) st h P := Z_go rfl rfl
theorem Z_astoreq1 {pc len a b : Nat}{l0 : Option Value} {o0 : Option Value} {x : Option Nat} : Z m ((pc, .astore_n 1, len, a, b, 0) :: code) (l0 :: o0 :: L) (va_rf x :: st) h P ↔ Z m code (l0 :: some (va_rf x) :: L) st h P := by cases x <;> exact Z_go rfl rfl
theorem Z_astoren1 {pc len a b : Nat}{l0 : Option Value} {o0 : Option Value} : Z m ((pc, .astore_n 1, len, a, b, 0) :: code) (l0 :: o0 :: L) (.null :: st) h P ↔ Z m code (l0 :: some .null :: L) st h P := Z_go rfl rfl
theorem Z_iinc1 {pc len a b : Nat}{l0 : Option Value} {x : Int32} {n : Int} : Z m ((pc, .iinc 1 n, len, a, b, 0) :: code) (l0 :: some (.int x) :: L) st h P ↔ Z m code (l0 :: some (.int (x + sm_lit a b)) :: L) st h P := Z_go rfl rfl
theorem Z_iload2 {pc len a b : Nat}{l0 l1 : Option Value} {x : Int32} : Z m ((pc, .iload_n 2, len, a, b, 0) :: code) (l0 :: l1 :: some (.int x) :: L) st h P ↔ Z m code (l0 :: l1 :: some (.int x) :: L) (.int x :: st) h P := Z_go rfl rfl
theorem Z_aload2 {pc len a b : Nat}{l0 l1 : Option Value} {x : Nat} : Z m ((pc, .aload_n 2, len, a, b, 0) :: code) (l0 :: l1 :: some (.ref x) :: L) st h P ↔ Z m code (l0 :: l1 :: some (.ref x) :: L) (.ref x :: st) h P := Z_go rfl rfl
theorem Z_aloadq2 {pc len a b : Nat}{l0 l1 : Option Value} {x : Option Nat} : Z m ((pc, .aload_n 2, len, a, b, 0) :: code) (l0 :: l1 :: some (va_rf x) :: L) st h P ↔ Z m code (l0 :: l1 :: some (va_rf x) :: L) (va_rf x :: st) h P := by cases x <;> exact Z_go rfl rfl
theorem Z_aloadn2 {pc len a b : Nat}{l0 l1 : Option Value}  : Z m ((pc, .aload_n 2, len, a, b, 0) :: code) (l0 :: l1 :: some .null :: L) st h P ↔ Z m code (l0 :: l1 :: some .null :: L) (.null :: st) h P := Z_go rfl rfl
theorem Z_istore2 {pc len a b : Nat}{l0 l1 : Option Value} {o0 : Option Value} {x : Int32} : Z m ((pc, .istore_n 2, len, a, b, 0) :: code) (l0 :: l1 :: o0 :: L) (.int x :: st) h P ↔ Z m code (l0 :: l1 :: some (.int x) :: L) st h P := Z_go rfl rfl
theorem Z_astore2 {pc len a b : Nat}{l0 l1 : Option Value} {o0 : Option Value} {x : Nat} : Z m ((pc, .astore_n 2, len, a, b, 0) :: code) (l0 :: l1 :: o0 :: L) (.ref x :: st) h P ↔ Z m code (l0 :: l1 :: some (.ref x) :: L) st h P := Z_go rfl rfl
theorem Z_astoreq2 {pc len a b : Nat}{l0 l1 : Option Value} {o0 : Option Value} {x : Option Nat} : Z m ((pc, .astore_n 2, len, a, b, 0) :: code) (l0 :: l1 :: o0 :: L) (va_rf x :: st) h P ↔ Z m code (l0 :: l1 :: some (va_rf x) :: L) st h P := by cases x <;> exact Z_go rfl rfl
theorem Z_astoren2 {pc len a b : Nat}{l0 l1 : Option Value} {o0 : Option Value} : Z m ((pc, .astore_n 2, len, a, b, 0) :: code) (l0 :: l1 :: o0 :: L) (.null :: st) h P ↔ Z m code (l0 :: l1 :: some .null :: L) st h P := Z_go rfl rfl
theorem Z_iinc2 {pc len a b : Nat}{l0 l1 : Option Value} {x : Int32} {n : Int} : Z m ((pc, .iinc 2 n, len, a, b, 0) :: code) (l0 :: l1 :: some (.int x) :: L) st h P ↔ Z m code (l0 :: l1 :: some (.int (x + sm_lit a b)) :: L) st h P := Z_go rfl rfl
theorem Z_iload3 {pc len a b : Nat}{l0 l1 l2 : Option Value} {x : Int32} : Z m ((pc, .iload_n 3, len, a, b, 0) :: code) (l0 :: l1 :: l2 :: some (.int x) :: L) st h P ↔ Z m code (l0 :: l1 :: l2 :: some (.int x) :: L) (.int x :: st) h P := Z_go rfl rfl
theorem Z_aload3 {pc len a b : Nat}{l0 l1 l2 : Option Value} {x : Nat} : Z m ((pc, .aload_n 3, len, a, b, 0) :: code) (l0 :: l1 :: l2 :: some (.ref x) :: L) st h P ↔ Z m code (l0 :: l1 :: l2 :: some (.ref x) :: L) (.ref x :: st) h P := Z_go rfl rfl
theorem Z_aloadq3 {pc len a b : Nat}{l0 l1 l2 : Option Value} {x : Option Nat} : Z m ((pc, .aload_n 3, len, a, b, 0) :: code) (l0 :: l1 :: l2 :: some (va_rf x) :: L) st h P ↔ Z m code (l0 :: l1 :: l2 :: some (va_rf x) :: L) (va_rf x :: st) h P := by cases x <;> exact Z_go rfl rfl
theorem Z_aloadn3 {pc len a b : Nat}{l0 l1 l2 : Option Value}  : Z m ((pc, .aload_n 3, len, a, b, 0) :: code) (l0 :: l1 :: l2 :: some .null :: L) st h P ↔ Z m code (l0 :: l1 :: l2 :: some .null :: L) (.null :: st) h P := Z_go rfl rfl
theorem Z_istore3 {pc len a b : Nat}{l0 l1 l2 : Option Value} {o0 : Option Value} {x : Int32} : Z m ((pc, .istore_n 3, len, a, b, 0) :: code) (l0 :: l1 :: l2 :: o0 :: L) (.int x :: st) h P ↔ Z m code (l0 :: l1 :: l2 :: some (.int x) :: L) st h P := Z_go rfl rfl
theorem Z_astore3 {pc len a b : Nat}{l0 l1 l2 : Option Value} {o0 : Option Value} {x : Nat} : Z m ((pc, .astore_n 3, len, a, b, 0) :: code) (l0 :: l1 :: l2 :: o0 :: L) (.ref x :: st) h P ↔ Z m code (l0 :: l1 :: l2 :: some (.ref x) :: L) st h P := Z_go rfl rfl
theorem Z_astoreq3 {pc len a b : Nat}{l0 l1 l2 : Option Value} {o0 : Option Value} {x : Option Nat} : Z m ((pc, .astore_n 3, len, a, b, 0) :: code) (l0 :: l1 :: l2 :: o0 :: L) (va_rf x :: st) h P ↔ Z m code (l0 :: l1 :: l2 :: some (va_rf x) :: L) st h P := by cases x <;> exact Z_go rfl rfl
theorem Z_astoren3 {pc len a b : Nat}{l0 l1 l2 : Option Value} {o0 : Option Value} : Z m ((pc, .astore_n 3, len, a, b, 0) :: code) (l0 :: l1 :: l2 :: o0 :: L) (.null :: st) h P ↔ Z m code (l0 :: l1 :: l2 :: some .null :: L) st h P := Z_go rfl rfl
theorem Z_iinc3 {pc len a b : Nat}{l0 l1 l2 : Option Value} {x : Int32} {n : Int} : Z m ((pc, .iinc 3 n, len, a, b, 0) :: code) (l0 :: l1 :: l2 :: some (.int x) :: L) st h P ↔ Z m code (l0 :: l1 :: l2 :: some (.int (x + sm_lit a b)) :: L) st h P := Z_go rfl rfl
theorem Z_iload4 {pc len a b : Nat}{l0 l1 l2 l3 : Option Value} {x : Int32} : Z m ((pc, .iload 4, len, a, b, 0) :: code) (l0 :: l1 :: l2 :: l3 :: some (.int x) :: L) st h P ↔ Z m code (l0 :: l1 :: l2 :: l3 :: some (.int x) :: L) (.int x :: st) h P := Z_go rfl rfl
theorem Z_aload4 {pc len a b : Nat}{l0 l1 l2 l3 : Option Value} {x : Nat} : Z m ((pc, .aload 4, len, a, b, 0) :: code) (l0 :: l1 :: l2 :: l3 :: some (.ref x) :: L) st h P ↔ Z m code (l0 :: l1 :: l2 :: l3 :: some (.ref x) :: L) (.ref x :: st) h P := Z_go rfl rfl
theorem Z_aloadq4 {pc len a b : Nat}{l0 l1 l2 l3 : Option Value} {x : Option Nat} : Z m ((pc, .aload 4, len, a, b, 0) :: code) (l0 :: l1 :: l2 :: l3 :: some (va_rf x) :: L) st h P ↔ Z m code (l0 :: l1 :: l2 :: l3 :: some (va_rf x) :: L) (va_rf x :: st) h P := by cases x <;> exact Z_go rfl rfl
theorem Z_aloadn4 {pc len a b : Nat}{l0 l1 l2 l3 : Option Value}  : Z m ((pc, .aload 4, len, a, b, 0) :: code) (l0 :: l1 :: l2 :: l3 :: some .null :: L) st h P ↔ Z m code (l0 :: l1 :: l2 :: l3 :: some .null :: L) (.null :: st) h P := Z_go rfl rfl
theorem Z_istore4 {pc len a b : Nat}{l0 l1 l2 l3 : Option Value} {o0 : Option Value} {x : Int32} : Z m ((pc, .istore 4, len, a, b, 0) :: code) (l0 :: l1 :: l2 :: l3 :: o0 :: L) (.int x :: st) h P ↔ Z m code (l0 :: l1 :: l2 :: l3 :: some (.int x) :: L) st h P := Z_go rfl rfl
theorem Z_astore4 {pc len a b : Nat}{l0 l1 l2 l3 : Option Value} {o0 : Option Value} {x : Nat} : Z m ((pc, .astore 4, len, a, b, 0) :: code) (l0 :: l1 :: l2 :: l3 :: o0 :: L) (.ref x :: st) h P ↔ Z m code (l0 :: l1 :: l2 :: l3 :: some (.ref x) :: L) st h P := Z_go rfl rfl
theorem Z_astoreq4 {pc len a b : Nat}{l0 l1 l2 l3 : Option Value} {o0 : Option Value} {x : Option Nat} : Z m ((pc, .astore 4, len, a, b, 0) :: code) (l0 :: l1 :: l2 :: l3 :: o0 :: L) (va_rf x :: st) h P ↔ Z m code (l0 :: l1 :: l2 :: l3 :: some (va_rf x) :: L) st h P := by cases x <;> exact Z_go rfl rfl
theorem Z_astoren4 {pc len a b : Nat}{l0 l1 l2 l3 : Option Value} {o0 : Option Value} : Z m ((pc, .astore 4, len, a, b, 0) :: code) (l0 :: l1 :: l2 :: l3 :: o0 :: L) (.null :: st) h P ↔ Z m code (l0 :: l1 :: l2 :: l3 :: some .null :: L) st h P := Z_go rfl rfl
theorem Z_iinc4 {pc len a b : Nat}{l0 l1 l2 l3 : Option Value} {x : Int32} {n : Int} : Z m ((pc, .iinc 4 n, len, a, b, 0) :: code) (l0 :: l1 :: l2 :: l3 :: some (.int x) :: L) st h P ↔ Z m code (l0 :: l1 :: l2 :: l3 :: some (.int (x + sm_lit a b)) :: L) st h P := Z_go rfl rfl
theorem Z_iload5 {pc len a b : Nat}{l0 l1 l2 l3 l4 : Option Value} {x : Int32} : Z m ((pc, .iload 5, len, a, b, 0) :: code) (l0 :: l1 :: l2 :: l3 :: l4 :: some (.int x) :: L) st h P ↔ Z m code (l0 :: l1 :: l2 :: l3 :: l4 :: some (.int x) :: L) (.int x :: st) h P := Z_go rfl rfl
theorem Z_aload5 {pc len a b : Nat}{l0 l1 l2 l3 l4 : Option Value} {x : Nat} : Z m ((pc, .aload 5, len, a, b, 0) :: code) (l0 :: l1 :: l2 :: l3 :: l4 :: some (.ref x) :: L) st h P ↔ Z m code (l0 :: l1 :: l2 :: l3 :: l4 :: some (.ref x) :: L) (.ref x :: st) h P := Z_go rfl rfl
theorem Z_aloadq5 {pc len a b : Nat}{l0 l1 l2 l3 l4 : Option Value} {x : Option Nat} : Z m ((pc, .aload 5, len, a, b, 0) :: code) (l0 :: l1 :: l2 :: l3 :: l4 :: some (va_rf x) :: L) st h P ↔ Z m code (l0 :: l1 :: l2 :: l3 :: l4 :: some (va_rf x) :: L) (va_rf x :: st) h P := by cases x <;> exact Z_go rfl rfl
theorem Z_aloadn5 {pc len a b : Nat}{l0 l1 l2 l3 l4 : Option Value}  : Z m ((pc, .aload 5, len, a, b, 0) :: code) (l0 :: l1 :: l2 :: l3 :: l4 :: some .null :: L) st h P ↔ Z m code (l0 :: l1 :: l2 :: l3 :: l4 :: some .null :: L) (.null :: st) h P := Z_go rfl rfl
theorem Z_istore5 {pc len a b : Nat}{l0 l1 l2 l3 l4 : Option Value} {o0 : Option Value} {x : Int32} : Z m ((pc, .istore 5, len, a, b, 0) :: code) (l0 :: l1 :: l2 :: l3 :: l4 :: o0 :: L) (.int x :: st) h P ↔ Z m code (l0 :: l1 :: l2 :: l3 :: l4 :: some (.int x) :: L) st h P := Z_go rfl rfl
theorem Z_astore5 {pc len a b : Nat}{l0 l1 l2 l3 l4 : Option Value} {o0 : Option Value} {x : Nat} : Z m ((pc, .astore 5, len, a, b, 0) :: code) (l0 :: l1 :: l2 :: l3 :: l4 :: o0 :: L) (.ref x :: st) h P ↔ Z m code (l0 :: l1 :: l2 :: l3 :: l4 :: some (.ref x) :: L) st h P := Z_go rfl rfl
theorem Z_astoreq5 {pc len a b : Nat}{l0 l1 l2 l3 l4 : Option Value} {o0 : Option Value} {x : Option Nat} : Z m ((pc, .astore 5, len, a, b, 0) :: code) (l0 :: l1 :: l2 :: l3 :: l4 :: o0 :: L) (va_rf x :: st) h P ↔ Z m code (l0 :: l1 :: l2 :: l3 :: l4 :: some (va_rf x) :: L) st h P := by cases x <;> exact Z_go rfl rfl
theorem Z_astoren5 {pc len a b : Nat}{l0 l1 l2 l3 l4 : Option Value} {o0 : Option Value} : Z m ((pc, .astore 5, len, a, b, 0) :: code) (l0 :: l1 :: l2 :: l3 :: l4 :: o0 :: L) (.null :: st) h P ↔ Z m code (l0 :: l1 :: l2 :: l3 :: l4 :: some .null :: L) st h P := Z_go rfl rfl
theorem Z_iinc5 {pc len a b : Nat}{l0 l1 l2 l3 l4 : Option Value} {x : Int32} {n : Int} : Z m ((pc, .iinc 5 n, len, a, b, 0) :: code) (l0 :: l1 :: l2 :: l3 :: l4 :: some (.int x) :: L) st h P ↔ Z m code (l0 :: l1 :: l2 :: l3 :: l4 :: some (.int (x + sm_lit a b)) :: L) st h P := Z_go rfl rfl
theorem Z_iload6 {pc len a b : Nat}{l0 l1 l2 l3 l4 l5 : Option Value} {x : Int32} : Z m ((pc, .iload 6, len, a, b, 0) :: code) (l0 :: l1 :: l2 :: l3 :: l4 :: l5 :: some (.int x) :: L) st h P ↔ Z m code (l0 :: l1 :: l2 :: l3 :: l4 :: l5 :: some (.int x) :: L) (.int x :: st) h P := Z_go rfl rfl
theorem Z_aload6 {pc len a b : Nat}{l0 l1 l2 l3 l4 l5 : Option Value} {x : Nat} : Z m ((pc, .aload 6, len, a, b, 0) :: code) (l0 :: l1 :: l2 :: l3 :: l4 :: l5 :: some (.ref x) :: L) st h P ↔ Z m code (l0 :: l1 :: l2 :: l3 :: l4 :: l5 :: some (.ref x) :: L) (.ref x :: st) h P := Z_go rfl rfl
theorem Z_aloadq6 {pc len a b : Nat}{l0 l1 l2 l3 l4 l5 : Option Value} {x : Option Nat} : Z m ((pc, .aload 6, len, a, b, 0) :: code) (l0 :: l1 :: l2 :: l3 :: l4 :: l5 :: some (va_rf x) :: L) st h P ↔ Z m code (l0 :: l1 :: l2 :: l3 :: l4 :: l5 :: some (va_rf x) :: L) (va_rf x :: st) h P := by cases x <;> exact Z_go rfl rfl
theorem Z_aloadn6 {pc len a b : Nat}{l0 l1 l2 l3 l4 l5 : Option Value}  : Z m ((pc, .aload 6, len, a, b, 0) :: code) (l0 :: l1 :: l2 :: l3 :: l4 :: l5 :: some .null :: L) st h P ↔ Z m code (l0 :: l1 :: l2 :: l3 :: l4 :: l5 :: some .null :: L) (.null :: st) h P := Z_go rfl rfl
theorem Z_istore6 {pc len a b : Nat}{l0 l1 l2 l3 l4 l5 : Option Value} {o0 : Option Value} {x : Int32} : Z m ((pc, .istore 6, len, a, b, 0) :: code) (l0 :: l1 :: l2 :: l3 :: l4 :: l5 :: o0 :: L) (.int x :: st) h P ↔ Z m code (l0 :: l1 :: l2 :: l3 :: l4 :: l5 :: some (.int x) :: L) st h P := Z_go rfl rfl
theorem Z_astore6 {pc len a b : Nat}{l0 l1 l2 l3 l4 l5 : Option Value} {o0 : Option Value} {x : Nat} : Z m ((pc, .astore 6, len, a, b, 0) :: code) (l0 :: l1 :: l2 :: l3 :: l4 :: l5 :: o0 :: L) (.ref x :: st) h P ↔ Z m code (l0 :: l1 :: l2 :: l3 :: l4 :: l5 :: some (.ref x) :: L) st h P := Z_go rfl rfl
theorem Z_astoreq6 {pc len a b : Nat}{l0 l1 l2 l3 l4 l5 : Option Value} {o0 : Option Value} {x : Option Nat} : Z m ((pc, .astore 6, len, a, b, 0) :: code) (l0 :: l1 :: l2 :: l3 :: l4 :: l5 :: o0 :: L) (va_rf x :: st) h P ↔ Z m code (l0 :: l1 :: l2 :: l3 :: l4 :: l5 :: some (va_rf x) :: L) st h P := by cases x <;> exact Z_go rfl rfl
theorem Z_astoren6 {pc len a b : Nat}{l0 l1 l2 l3 l4 l5 : Option Value} {o0 : Option Value} : Z m ((pc, .astore 6, len, a, b, 0) :: code) (l0 :: l1 :: l2 :: l3 :: l4 :: l5 :: o0 :: L) (.null :: st) h P ↔ Z m code (l0 :: l1 :: l2 :: l3 :: l4 :: l5 :: some .null :: L) st h P := Z_go rfl rfl
theorem Z_iinc6 {pc len a b : Nat}{l0 l1 l2 l3 l4 l5 : Option Value} {x : Int32} {n : Int} : Z m ((pc, .iinc 6 n, len, a, b, 0) :: code) (l0 :: l1 :: l2 :: l3 :: l4 :: l5 :: some (.int x) :: L) st h P ↔ Z m code (l0 :: l1 :: l2 :: l3 :: l4 :: l5 :: some (.int (x + sm_lit a b)) :: L) st h P := Z_go rfl rfl
theorem Z_iload7 {pc len a b : Nat}{l0 l1 l2 l3 l4 l5 l6 : Option Value} {x : Int32} : Z m ((pc, .iload 7, len, a, b, 0) :: code) (l0 :: l1 :: l2 :: l3 :: l4 :: l5 :: l6 :: some (.int x) :: L) st h P ↔ Z m code (l0 :: l1 :: l2 :: l3 :: l4 :: l5 :: l6 :: some (.int x) :: L) (.int x :: st) h P := Z_go rfl rfl
theorem Z_aload7 {pc len a b : Nat}{l0 l1 l2 l3 l4 l5 l6 : Option Value} {x : Nat} : Z m ((pc, .aload 7, len, a, b, 0) :: code) (l0 :: l1 :: l2 :: l3 :: l4 :: l5 :: l6 :: some (.ref x) :: L) st h P ↔ Z m code (l0 :: l1 :: l2 :: l3 :: l4 :: l5 :: l6 :: some (.ref x) :: L) (.ref x :: st) h P := Z_go rfl rfl
theorem Z_aloadq7 {pc len a b : Nat}{l0 l1 l2 l3 l4 l5 l6 : Option Value} {x : Option Nat} : Z m ((pc, .aload 7, len, a, b, 0) :: code) (l0 :: l1 :: l2 :: l3 :: l4 :: l5 :: l6 :: some (va_rf x) :: L) st h P ↔ Z m code (l0 :: l1 :: l2 :: l3 :: l4 :: l5 :: l6 :: some (va_rf x) :: L) (va_rf x :: st) h P := by cases x <;> exact Z_go rfl rfl
theorem Z_aloadn7 {pc len a b : Nat}{l0 l1 l2 l3 l4 l5 l6 : Option Value}  : Z m ((pc, .aload 7, len, a, b, 0) :: code) (l0 :: l1 :: l2 :: l3 :: l4 :: l5 :: l6 :: some .null :: L) st h P ↔ Z m code (l0 :: l1 :: l2 :: l3 :: l4 :: l5 :: l6 :: some .null :: L) (.null :: st) h P := Z_go rfl rfl
theorem Z_istore7 {pc len a b : Nat}{l0 l1 l2 l3 l4 l5 l6 : Option Value} {o0 : Option Value} {x : Int32} : Z m ((pc, .istore 7, len, a, b, 0) :: code) (l0 :: l1 :: l2 :: l3 :: l4 :: l5 :: l6 :: o0 :: L) (.int x :: st) h P ↔ Z m code (l0 :: l1 :: l2 :: l3 :: l4 :: l5 :: l6 :: some (.int x) :: L) st h P := Z_go rfl rfl
theorem Z_astore7 {pc len a b : Nat}{l0 l1 l2 l3 l4 l5 l6 : Option Value} {o0 : Option Value} {x : Nat} : Z m ((pc, .astore 7, len, a, b, 0) :: code) (l0 :: l1 :: l2 :: l3 :: l4 :: l5 :: l6 :: o0 :: L) (.ref x :: st) h P ↔ Z m code (l0 :: l1 :: l2 :: l3 :: l4 :: l5 :: l6 :: some (.ref x) :: L) st h P := Z_go rfl rfl
theorem Z_astoreq7 {pc len a b : Nat}{l0 l1 l2 l3 l4 l5 l6 : Option Value} {o0 : Option Value} {x : Option Nat} : Z m ((pc, .astore 7, len, a, b, 0) :: code) (l0 :: l1 :: l2 :: l3 :: l4 :: l5 :: l6 :: o0 :: L) (va_rf x :: st) h P ↔ Z m code (l0 :: l1 :: l2 :: l3 :: l4 :: l5 :: l6 :: some (va_rf x) :: L) st h P := by cases x <;> exact Z_go rfl rfl
theorem Z_astoren7 {pc len a b : Nat}{l0 l1 l2 l3 l4 l5 l6 : Option Value} {o0 : Option Value} : Z m ((pc, .astore 7, len, a, b, 0) :: code) (l0 :: l1 :: l2 :: l3 :: l4 :: l5 :: l6 :: o0 :: L) (.null :: st) h P ↔ Z m code (l0 :: l1 :: l2 :: l3 :: l4 :: l5 :: l6 :: some .null :: L) st h P := Z_go rfl rfl
theorem Z_iinc7 {pc len a b : Nat}{l0 l1 l2 l3 l4 l5 l6 : Option Value} {x : Int32} {n : Int} : Z m ((pc, .iinc 7 n, len, a, b, 0) :: code) (l0 :: l1 :: l2 :: l3 :: l4 :: l5 :: l6 :: some (.int x) :: L) st h P ↔ Z m code (l0 :: l1 :: l2 :: l3 :: l4 :: l5 :: l6 :: some (.int (x + sm_lit a b)) :: L) st h P := Z_go rfl rfl
theorem Z_iload8 {pc len a b : Nat}{l0 l1 l2 l3 l4 l5 l6 l7 : Option Value} {x : Int32} : Z m ((pc, .iload 8, len, a, b, 0) :: code) (l0 :: l1 :: l2 :: l3 :: l4 :: l5 :: l6 :: l7 :: some (.int x) :: L) st h P ↔ Z m code (l0 :: l1 :: l2 :: l3 :: l4 :: l5 :: l6 :: l7 :: some (.int x) :: L) (.int x :: st) h P := Z_go rfl rfl
theorem Z_aload8 {pc len a b : Nat}{l0 l1 l2 l3 l4 l5 l6 l7 : Option Value} {x : Nat} : Z m ((pc, .aload 8, len, a, b, 0) :: code) (l0 :: l1 :: l2 :: l3 :: l4 :: l5 :: l6 :: l7 :: some (.ref x) :: L) st h P ↔ Z m code (l0 :: l1 :: l2 :: l3 :: l4 :: l5 :: l6 :: l7 :: some (.ref x) :: L) (.ref x :: st) h P := Z_go rfl rfl
theorem Z_aloadq8 {pc len a b : Nat}{l0 l1 l2 l3 l4 l5 l6 l7 : Option Value} {x : Option Nat} : Z m ((pc, .aload 8, len, a, b, 0) :: code) (l0 :: l1 :: l2 :: l3 :: l4 :: l5 :: l6 :: l7 :: some (va_rf x) :: L) st h P ↔ Z m code (l0 :: l1 :: l2 :: l3 :: l4 :: l5 :: l6 :: l7 :: some (va_rf x) :: L) (va_rf x :: st) h P := by cases x <;> exact Z_go rfl rfl
theorem Z_aloadn8 {pc len a b : Nat}{l0 l1 l2 l3 l4 l5 l6 l7 : Option Value}  : Z m ((pc, .aload 8, len, a, b, 0) :: code) (l0 :: l1 :: l2 :: l3 :: l4 :: l5 :: l6 :: l7 :: some .null :: L) st h P ↔ Z m code (l0 :: l1 :: l2 :: l3 :: l4 :: l5 :: l6 :: l7 :: some .null :: L) (.null :: st) h P := Z_go rfl rfl
theorem Z_istore8 {pc len a b : Nat}{l0 l1 l2 l3 l4 l5 l6 l7 : Option Value} {o0 : Option Value} {x : Int32} : Z m ((pc, .istore 8, len, a, b, 0) :: code) (l0 :: l1 :: l2 :: l3 :: l4 :: l5 :: l6 :: l7 :: o0 :: L) (.int x :: st) h P ↔ Z m code (l0 :: l1 :: l2 :: l3 :: l4 :: l5 :: l6 :: l7 :: some (.int x) :: L) st h P := Z_go rfl rfl
theorem Z_astore8 {pc len a b : Nat}{l0 l1 l2 l3 l4 l5 l6 l7 : Option Value} {o0 : Option Value} {x : Nat} : Z m ((pc, .astore 8, len, a, b, 0) :: code) (l0 :: l1 :: l2 :: l3 :: l4 :: l5 :: l6 :: l7 :: o0 :: L) (.ref x :: st) h P ↔ Z m code (l0 :: l1 :: l2 :: l3 :: l4 :: l5 :: l6 :: l7 :: some (.ref x) :: L) st h P := Z_go rfl rfl
theorem Z_astoreq8 {pc len a b : Nat}{l0 l1 l2 l3 l4 l5 l6 l7 : Option Value} {o0 : Option Value} {x : Option Nat} : Z m ((pc, .astore 8, len, a, b, 0) :: code) (l0 :: l1 :: l2 :: l3 :: l4 :: l5 :: l6 :: l7 :: o0 :: L) (va_rf x :: st) h P ↔ Z m code (l0 :: l1 :: l2 :: l3 :: l4 :: l5 :: l6 :: l7 :: some (va_rf x) :: L) st h P := by cases x <;> exact Z_go rfl rfl
theorem Z_astoren8 {pc len a b : Nat}{l0 l1 l2 l3 l4 l5 l6 l7 : Option Value} {o0 : Option Value} : Z m ((pc, .astore 8, len, a, b, 0) :: code) (l0 :: l1 :: l2 :: l3 :: l4 :: l5 :: l6 :: l7 :: o0 :: L) (.null :: st) h P ↔ Z m code (l0 :: l1 :: l2 :: l3 :: l4 :: l5 :: l6 :: l7 :: some .null :: L) st h P := Z_go rfl rfl
theorem Z_iinc8 {pc len a b : Nat}{l0 l1 l2 l3 l4 l5 l6 l7 : Option Value} {x : Int32} {n : Int} : Z m ((pc, .iinc 8 n, len, a, b, 0) :: code) (l0 :: l1 :: l2 :: l3 :: l4 :: l5 :: l6 :: l7 :: some (.int x) :: L) st h P ↔ Z m code (l0 :: l1 :: l2 :: l3 :: l4 :: l5 :: l6 :: l7 :: some (.int (x + sm_lit a b)) :: L) st h P := Z_go rfl rfl
theorem Z_iload9 {pc len a b : Nat}{l0 l1 l2 l3 l4 l5 l6 l7 l8 : Option Value} {x : Int32} : Z m ((pc, .iload 9, len, a, b, 0) :: code) (l0 :: l1 :: l2 :: l3 :: l4 :: l5 :: l6 :: l7 :: l8 :: some (.int x) :: L) st h P ↔ Z m code (l0 :: l1 :: l2 :: l3 :: l4 :: l5 :: l6 :: l7 :: l8 :: some (.int x) :: L) (.int x :: st) h P := Z_go rfl rfl
theorem Z_aload9 {pc len a b : Nat}{l0 l1 l2 l3 l4 l5 l6 l7 l8 : Option Value} {x : Nat} : Z m ((pc, .aload 9, len, a, b, 0) :: code) (l0 :: l1 :: l2 :: l3 :: l4 :: l5 :: l6 :: l7 :: l8 :: some (.ref x) :: L) st h P ↔ Z m code (l0 :: l1 :: l2 :: l3 :: l4 :: l5 :: l6 :: l7 :: l8 :: some (.ref x) :: L) (.ref x :: st) h P := Z_go rfl rfl
theorem Z_aloadq9 {pc len a b : Nat}{l0 l1 l2 l3 l4 l5 l6 l7 l8 : Option Value} {x : Option Nat} : Z m ((pc, .aload 9, len, a, b, 0) :: code) (l0 :: l1 :: l2 :: l3 :: l4 :: l5 :: l6 :: l7 :: l8 :: some (va_rf x) :: L) st h P ↔ Z m code (l0 :: l1 :: l2 :: l3 :: l4 :: l5 :: l6 :: l7 :: l8 :: some (va_rf x) :: L) (va_rf x :: st) h P := by cases x <;> exact Z_go rfl rfl
theorem Z_aloadn9 {pc len a b : Nat}{l0 l1 l2 l3 l4 l5 l6 l7 l8 : Option Value}  : Z m ((pc, .aload 9, len, a, b, 0) :: code) (l0 :: l1 :: l2 :: l3 :: l4 :: l5 :: l6 :: l7 :: l8 :: some .null :: L) st h P ↔ Z m code (l0 :: l1 :: l2 :: l3 :: l4 :: l5 :: l6 :: l7 :: l8 :: some .null :: L) (.null :: st) h P := Z_go rfl rfl
theorem Z_istore9 {pc len a b : Nat}{l0 l1 l2 l3 l4 l5 l6 l7 l8 : Option Value} {o0 : Option Value} {x : Int32} : Z m ((pc, .istore 9, len, a, b, 0) :: code) (l0 :: l1 :: l2 :: l3 :: l4 :: l5 :: l6 :: l7 :: l8 :: o0 :: L) (.int x :: st) h P ↔ Z m code (l0 :: l1 :: l2 :: l3 :: l4 :: l5 :: l6 :: l7 :: l8 :: some (.int x) :: L) st h P := Z_go rfl rfl
theorem Z_astore9 {pc len a b : Nat}{l0 l1 l2 l3 l4 l5 l6 l7 l8 : Option Value} {o0 : Option Value} {x : Nat} : Z m ((pc, .astore 9, len, a, b, 0) :: code) (l0 :: l1 :: l2 :: l3 :: l4 :: l5 :: l6 :: l7 :: l8 :: o0 :: L) (.ref x :: st) h P ↔ Z m code (l0 :: l1 :: l2 :: l3 :: l4 :: l5 :: l6 :: l7 :: l8 :: some (.ref x) :: L) st h P := Z_go rfl rfl
theorem Z_astoreq9 {pc len a b : Nat}{l0 l1 l2 l3 l4 l5 l6 l7 l8 : Option Value} {o0 : Option Value} {x : Option Nat} : Z m ((pc, .astore 9, len, a, b, 0) :: code) (l0 :: l1 :: l2 :: l3 :: l4 :: l5 :: l6 :: l7 :: l8 :: o0 :: L) (va_rf x :: st) h P ↔ Z m code (l0 :: l1 :: l2 :: l3 :: l4 :: l5 :: l6 :: l7 :: l8 :: some (va_rf x) :: L) st h P := by cases x <;> exact Z_go rfl rfl
theorem Z_astoren9 {pc len a b : Nat}{l0 l1 l2 l3 l4 l5 l6 l7 l8 : Option Value} {o0 : Option Value} : Z m ((pc, .astore 9, len, a, b, 0) :: code) (l0 :: l1 :: l2 :: l3 :: l4 :: l5 :: l6 :: l7 :: l8 :: o0 :: L) (.null :: st) h P ↔ Z m code (l0 :: l1 :: l2 :: l3 :: l4 :: l5 :: l6 :: l7 :: l8 :: some .null :: L) st h P := Z_go rfl rfl
theorem Z_iinc9 {pc len a b : Nat}{l0 l1 l2 l3 l4 l5 l6 l7 l8 : Option Value} {x : Int32} {n : Int} : Z m ((pc, .iinc 9 n, len, a, b, 0) :: code) (l0 :: l1 :: l2 :: l3 :: l4 :: l5 :: l6 :: l7 :: l8 :: some (.int x) :: L) st h P ↔ Z m code (l0 :: l1 :: l2 :: l3 :: l4 :: l5 :: l6 :: l7 :: l8 :: some (.int (x + sm_lit a b)) :: L) st h P := Z_go rfl rfl
theorem Z_iload10 {pc len a b : Nat}{l0 l1 l2 l3 l4 l5 l6 l7 l8 l9 : Option Value} {x : Int32} : Z m ((pc, .iload 10, len, a, b, 0) :: code) (l0 :: l1 :: l2 :: l3 :: l4 :: l5 :: l6 :: l7 :: l8 :: l9 :: some (.int x) :: L) st h P ↔ Z m code (l0 :: l1 :: l2 :: l3 :: l4 :: l5 :: l6 :: l7 :: l8 :: l9 :: some (.int x) :: L) (.int x :: st) h P := Z_go rfl rfl
theorem Z_aload10 {pc len a b : Nat}{l0 l1 l2 l3 l4 l5 l6 l7 l8 l9 : Option Value} {x : Nat} : Z m ((pc, .aload 10, len, a, b, 0) :: code) (l0 :: l1 :: l2 :: l3 :: l4 :: l5 :: l6 :: l7 :: l8 :: l9 :: some (.ref x) :: L) st h P ↔ Z m code (l0 :: l1 :: l2 :: l3 :: l4 :: l5 :: l6 :: l7 :: l8 :: l9 :: some (.ref x) :: L) (.ref x :: st) h P := Z_go rfl rfl
theorem Z_aloadq10 {pc len a b : Nat}{l0 l1 l2 l3 l4 l5 l6 l7 l8 l9 : Option Value} {x : Option Nat} : Z m ((pc, .aload 10, len, a, b, 0) :: code) (l0 :: l1 :: l2 :: l3 :: l4 :: l5 :: l6 :: l7 :: l8 :: l9 :: some (va_rf x) :: L) st h P ↔ Z m code (l0 :: l1 :: l2 :: l3 :: l4 :: l5 :: l6 :: l7 :: l8 :: l9 :: some (va_rf x) :: L) (va_rf x :: st) h P := by cases x <;> exact Z_go rfl rfl
theorem Z_aloadn10 {pc len a b : Nat}{l0 l1 l2 l3 l4 l5 l6 l7 l8 l9 : Option Value}  : Z m ((pc, .aload 10, len, a, b, 0) :: code) (l0 :: l1 :: l2 :: l3 :: l4 :: l5 :: l6 :: l7 :: l8 :: l9 :: some .null :: L) st h P ↔ Z m code (l0 :: l1 :: l2 :: l3 :: l4 :: l5 :: l6 :: l7 :: l8 :: l9 :: some .null :: L) (.null :: st) h P := Z_go rfl rfl
theorem Z_istore10 {pc len a b : Nat}{l0 l1 l2 l3 l4 l5 l6 l7 l8 l9 : Option Value} {o0 : Option Value} {x : Int32} : Z m ((pc, .istore 10, len, a, b, 0) :: code) (l0 :: l1 :: l2 :: l3 :: l4 :: l5 :: l6 :: l7 :: l8 :: l9 :: o0 :: L) (.int x :: st) h P ↔ Z m code (l0 :: l1 :: l2 :: l3 :: l4 :: l5 :: l6 :: l7 :: l8 :: l9 :: some (.int x) :: L) st h P := Z_go rfl rfl
theorem Z_astore10 {pc len a b : Nat}{l0 l1 l2 l3 l4 l5 l6 l7 l8 l9 : Option Value} {o0 : Option Value} {x : Nat} : Z m ((pc, .astore 10, len, a, b, 0) :: code) (l0 :: l1 :: l2 :: l3 :: l4 :: l5 :: l6 :: l7 :: l8 :: l9 :: o0 :: L) (.ref x :: st) h P ↔ Z m code (l0 :: l1 :: l2 :: l3 :: l4 :: l5 :: l6 :: l7 :: l8 :: l9 :: some (.ref x) :: L) st h P := Z_go rfl rfl
theorem Z_astoreq10 {pc len a b : Nat}{l0 l1 l2 l3 l4 l5 l6 l7 l8 l9 : Option Value} {o0 : Option Value} {x : Option Nat} : Z m ((pc, .astore 10, len, a, b, 0) :: code) (l0 :: l1 :: l2 :: l3 :: l4 :: l5 :: l6 :: l7 :: l8 :: l9 :: o0 :: L) (va_rf x :: st) h P ↔ Z m code (l0 :: l1 :: l2 :: l3 :: l4 :: l5 :: l6 :: l7 :: l8 :: l9 :: some (va_rf x) :: L) st h P := by cases x <;> exact Z_go rfl rfl
theorem Z_astoren10 {pc len a b : Nat}{l0 l1 l2 l3 l4 l5 l6 l7 l8 l9 : Option Value} {o0 : Option Value} : Z m ((pc, .astore 10, len, a, b, 0) :: code) (l0 :: l1 :: l2 :: l3 :: l4 :: l5 :: l6 :: l7 :: l8 :: l9 :: o0 :: L) (.null :: st) h P ↔ Z m code (l0 :: l1 :: l2 :: l3 :: l4 :: l5 :: l6 :: l7 :: l8 :: l9 :: some .null :: L) st h P := Z_go rfl rfl
theorem Z_iinc10 {pc len a b : Nat}{l0 l1 l2 l3 l4 l5 l6 l7 l8 l9 : Option Value} {x : Int32} {n : Int} : Z m ((pc, .iinc 10 n, len, a, b, 0) :: code) (l0 :: l1 :: l2 :: l3 :: l4 :: l5 :: l6 :: l7 :: l8 :: l9 :: some (.int x) :: L) st h P ↔ Z m code (l0 :: l1 :: l2 :: l3 :: l4 :: l5 :: l6 :: l7 :: l8 :: l9 :: some (.int (x + sm_lit a b)) :: L) st h P := Z_go rfl rfl
theorem Z_iload11 {pc len a b : Nat}{l0 l1 l2 l3 l4 l5 l6 l7 l8 l9 l10 : Option Value} {x : Int32} : Z m ((pc, .iload 11, len, a, b, 0) :: code) (l0 :: l1 :: l2 :: l3 :: l4 :: l5 :: l6 :: l7 :: l8 :: l9 :: l10 :: some (.int x) :: L) st h P ↔ Z m code (l0 :: l1 :: l2 :: l3 :: l4 :: l5 :: l6 :: l7 :: l8 :: l9 :: l10 :: some (.int x) :: L) (.int x :: st) h P := Z_go rfl rfl
theorem Z_aload11 {pc len a b : Nat}{l0 l1 l2 l3 l4 l5 l6 l7 l8 l9 l10 : Option Value} {x : Nat} : Z m ((pc, .aload 11, len, a, b, 0) :: code) (l0 :: l1 :: l2 :: l3 :: l4 :: l5 :: l6 :: l7 :: l8 :: l9 :: l10 :: some (.ref x) :: L) st h P ↔ Z m code (l0 :: l1 :: l2 :: l3 :: l4 :: l5 :: l6 :: l7 :: l8 :: l9 :: l10 :: some (.ref x) :: L) (.ref x :: st) h P := Z_go rfl rfl
theorem Z_aloadq11 {pc len a b : Nat}{l0 l1 l2 l3 l4 l5 l6 l7 l8 l9 l10 : Option Value} {x : Option Nat} : Z m ((pc, .aload 11, len, a, b, 0) :: code) (l0 :: l1 :: l2 :: l3 :: l4 :: l5 :: l6 :: l7 :: l8 :: l9 :: l10 :: some (va_rf x) :: L) st h P ↔ Z m code (l0 :: l1 :: l2 :: l3 :: l4 :: l5 :: l6 :: l7 :: l8 :: l9 :: l10 :: some (va_rf x) :: L) (va_rf x :: st) h P := by cases x <;> exact Z_go rfl rfl
theorem Z_aloadn11 {pc len a b : Nat}{l0 l1 l2 l3 l4 l5 l6 l7 l8 l9 l10 : Option Value}  : Z m ((pc, .aload 11, len, a, b, 0) :: code) (l0 :: l1 :: l2 :: l3 :: l4 :: l5 :: l6 :: l7 :: l8 :: l9 :: l10 :: some .null :: L) st h P ↔ Z m code (l0 :: l1 :: l2 :: l3 :: l4 :: l5 :: l6 :: l7 :: l8 :: l9 :: l10 :: some .null :: L) (.null :: st) h P := Z_go rfl rfl
theorem Z_istore11 {pc len a b : Nat}{l0 l1 l2 l3 l4 l5 l6 l7 l8 l9 l10 : Option Value} {o0 : Option Value} {x : Int32} : Z m ((pc, .istore 11, len, a, b, 0) :: code) (l0 :: l1 :: l2 :: l3 :: l4 :: l5 :: l6 :: l7 :: l8 :: l9 :: l10 :: o0 :: L) (.int x :: st) h P ↔ Z m code (l0 :: l1 :: l2 :: l3 :: l4 :: l5 :: l6 :: l7 :: l8 :: l9 :: l10 :: some (.int x) :: L) st h P := Z_go rfl rfl
theorem Z_astore11 {pc len a b : Nat}{l0 l1 l2 l3 l4 l5 l6 l7 l8 l9 l10 : Option Value} {o0 : Option Value} {x : Nat} : Z m ((pc, .astore 11, len, a, b, 0) :: code) (l0 :: l1 :: l2 :: l3 :: l4 :: l5 :: l6 :: l7 :: l8 :: l9 :: l10 :: o0 :: L) (.ref x :: st) h P ↔ Z m code (l0 :: l1 :: l2 :: l3 :: l4 :: l5 :: l6 :: l7 :: l8 :: l9 :: l10 :: some (.ref x) :: L) st h P := Z_go rfl rfl
theorem Z_astoreq11 {pc len a b : Nat}{l0 l1 l2 l3 l4 l5 l6 l7 l8 l9 l10 : Option Value} {o0 : Option Value} {x : Option Nat} : Z m ((pc, .astore 11, len, a, b, 0) :: code) (l0 :: l1 :: l2 :: l3 :: l4 :: l5 :: l6 :: l7 :: l8 :: l9 :: l10 :: o0 :: L) (va_rf x :: st) h P ↔ Z m code (l0 :: l1 :: l2 :: l3 :: l4 :: l5 :: l6 :: l7 :: l8 :: l9 :: l10 :: some (va_rf x) :: L) st h P := by cases x <;> exact Z_go rfl rfl
theorem Z_astoren11 {pc len a b : Nat}{l0 l1 l2 l3 l4 l5 l6 l7 l8 l9 l10 : Option Value} {o0 : Option Value} : Z m ((pc, .astore 11, len, a, b, 0) :: code) (l0 :: l1 :: l2 :: l3 :: l4 :: l5 :: l6 :: l7 :: l8 :: l9 :: l10 :: o0 :: L) (.null :: st) h P ↔ Z m code (l0 :: l1 :: l2 :: l3 :: l4 :: l5 :: l6 :: l7 :: l8 :: l9 :: l10 :: some .null :: L) st h P := Z_go rfl rfl
theorem Z_iinc11 {pc len a b : Nat}{l0 l1 l2 l3 l4 l5 l6 l7 l8 l9 l10 : Option Value} {x : Int32} {n : Int} : Z m ((pc, .iinc 11 n, len, a, b, 0) :: code) (l0 :: l1 :: l2 :: l3 :: l4 :: l5 :: l6 :: l7 :: l8 :: l9 :: l10 :: some (.int x) :: L) st h P ↔ Z m code (l0 :: l1 :: l2 :: l3 :: l4 :: l5 :: l6 :: l7 :: l8 :: l9 :: l10 :: some (.int (x + sm_lit a b)) :: L) st h P := Z_go rfl rfl
theorem Z_iload12 {pc len a b : Nat}{l0 l1 l2 l3 l4 l5 l6 l7 l8 l9 l10 l11 : Option Value} {x : Int32} : Z m ((pc, .iload 12, len, a, b, 0) :: code) (l0 :: l1 :: l2 :: l3 :: l4 :: l5 :: l6 :: l7 :: l8 :: l9 :: l10 :: l11 :: some (.int x) :: L) st h P ↔ Z m code (l0 :: l1 :: l2 :: l3 :: l4 :: l5 :: l6 :: l7 :: l8 :: l9 :: l10 :: l11 :: some (.int x) :: L) (.int x :: st) h P := Z_go rfl rfl
theorem Z_aload12 {pc len a b : Nat}{l0 l1 l2 l3 l4 l5 l6 l7 l8 l9 l10 l11 : Option Value} {x : Nat} : Z m ((pc, .aload 12, len, a, b, 0) :: code) (l0 :: l1 :: l2 :: l3 :: l4 :: l5 :: l6 :: l7 :: l8 :: l9 :: l10 :: l11 :: some (.ref x) :: L) st h P ↔ Z m code (l0 :: l1 :: l2 :: l3 :: l4 :: l5 :: l6 :: l7 :: l8 :: l9 :: l10 :: l11 :: some (.ref x) :: L) (.ref x :: st) h P := Z_go rfl rfl
theorem Z_aloadq12 {pc len a b : Nat}{l0 l1 l2 l3 l4 l5 l6 l7 l8 l9 l10 l11 : Option Value} {x : Option Nat} : Z m ((pc, .aload 12, len, a, b, 0) :: code) (l0 :: l1 :: l2 :: l3 :: l4 :: l5 :: l6 :: l7 :: l8 :: l9 :: l10 :: l11 :: some (va_rf x) :: L) st h P ↔ Z m code (l0 :: l1 :: l2 :: l3 :: l4 :: l5 :: l6 :: l7 :: l8 :: l9 :: l10 :: l11 :: some (va_rf x) :: L) (va_rf x :: st) h P := by cases x <;> exact Z_go rfl rfl
theorem Z_aloadn12 {pc len a b : Nat}{l0 l1 l2 l3 l4 l5 l6 l7 l8 l9 l10 l11 : Option Value}  : Z m ((pc, .aload 12, len, a, b, 0) :: code) (l0 :: l1 :: l2 :: l3 :: l4 :: l5 :: l6 :: l7 :: l8 :: l9 :: l10 :: l11 :: some .null :: L) st h P ↔ Z m code (l0 :: l1 :: l2 :: l3 :: l4 :: l5 :: l6 :: l7 :: l8 :: l9 :: l10 :: l11 :: some .null :: L) (.null :: st) h P := Z_go rfl rfl
theorem Z_istore12 {pc len a b : Nat}{l0 l1 l2 l3 l4 l5 l6 l7 l8 l9 l10 l11 : Option Value} {o0 : Option Value} {x : Int32} : Z m ((pc, .istore 12, len, a, b, 0) :: code) (l0 :: l1 :: l2 :: l3 :: l4 :: l5 :: l6 :: l7 :: l8 :: l9 :: l10 :: l11 :: o0 :: L) (.int x :: st) h P ↔ Z m code (l0 :: l1 :: l2 :: l3 :: l4 :: l5 :: l6 :: l7 :: l8 :: l9 :: l10 :: l11 :: some (.int x) :: L) st h P := Z_go rfl rfl
theorem Z_astore12 {pc len a b : Nat}{l0 l1 l2 l3 l4 l5 l6 l7 l8 l9 l10 l11 : Option Value} {o0 : Option Value} {x : Nat} : Z m ((pc, .astore 12, len, a, b, 0) :: code) (l0 :: l1 :: l2 :: l3 :: l4 :: l5 :: l6 :: l7 :: l8 :: l9 :: l10 :: l11 :: o0 :: L) (.ref x :: st) h P ↔ Z m code (l0 :: l1 :: l2 :: l3 :: l4 :: l5 :: l6 :: l7 :: l8 :: l9 :: l10 :: l11 :: some (.ref x) :: L) st h P := Z_go rfl rfl
theorem Z_astoreq12 {pc len a b : Nat}{l0 l1 l2 l3 l4 l5 l6 l7 l8 l9 l10 l11 : Option Value} {o0 : Option Value} {x : Option Nat} : Z m ((pc, .astore 12, len, a, b, 0) :: code) (l0 :: l1 :: l2 :: l3 :: l4 :: l5 :: l6 :: l7 :: l8 :: l9 :: l10 :: l11 :: o0 :: L) (va_rf x :: st) h P ↔ Z m code (l0 :: l1 :: l2 :: l3 :: l4 :: l5 :: l6 :: l7 :: l8 :: l9 :: l10 :: l11 :: some (va_rf x) :: L) st h P := by cases x <;> exact Z_go rfl rfl
theorem Z_astoren12 {pc len a b : Nat}{l0 l1 l2 l3 l4 l5 l6 l7 l8 l9 l10 l11 : Option Value} {o0 : Option Value} : Z m ((pc, .astore 12, len, a, b, 0) :: code) (l0 :: l1 :: l2 :: l3 :: l4 :: l5 :: l6 :: l7 :: l8 :: l9 :: l10 :: l11 :: o0 :: L) (.null :: st) h P ↔ Z m code (l0 :: l1 :: l2 :: l3 :: l4 :: l5 :: l6 :: l7 :: l8 :: l9 :: l10 :: l11 :: some .null :: L) st h P := Z_go rfl rfl
theorem Z_iinc12 {pc len a b : Nat}{l0 l1 l2 l3 l4 l5 l6 l7 l8 l9 l10 l11 : Option Value} {x : Int32} {n : Int} : Z m ((pc, .iinc 12 n, len, a, b, 0) :: code) (l0 :: l1 :: l2 :: l3 :: l4 :: l5 :: l6 :: l7 :: l8 :: l9 :: l10 :: l11 :: some (.int x) :: L) st h P ↔ Z m code (l0 :: l1 :: l2 :: l3 :: l4 :: l5 :: l6 :: l7 :: l8 :: l9 :: l10 :: l11 :: some (.int (x + sm_lit a b)) :: L) st h P := Z_go rfl rfl
theorem Z_iadd {pc len a b : Nat} {x y : Int32} : Z m ((pc, .iadd, len, a, b, 0) :: code) L (.int y :: .int x :: st) h P ↔ Z m code L (.int (x + y) :: st) h P := Z_go rfl rfl
theorem Z_isub {pc len a b : Nat} {x y : Int32} : Z m ((pc, .isub, len, a, b, 0) :: code) L (.int y :: .int x :: st) h P ↔ Z m code L (.int (x - y) :: st) h P := Z_go rfl rfl
theorem Z_imul {pc len a b : Nat} {x y : Int32} : Z m ((pc, .imul, len, a, b, 0) :: code) L (.int y :: .int x :: st) h P ↔ Z m code L (.int (x * y) :: st) h P := Z_go rfl rfl
theorem Z_iand {pc len a b : Nat} {x y : Int32} : Z m ((pc, .iand, len, a, b, 0) :: code) L (.int y :: .int x :: st) h P ↔ Z m code L (.int (x &&& y) :: st) h P := Z_go rfl rfl
theorem Z_ior {pc len a b : Nat} {x y : Int32} : Z m ((pc, .ior, len, a, b, 0) :: code) L (.int y :: .int x :: st) h P ↔ Z m code L (.int (x ||| y) :: st) h P := Z_go rfl rfl
theorem Z_ishl {pc len a b : Nat} {x y : Int32} : Z m ((pc, .ishl, len, a, b, 0) :: code) L (.int y :: .int x :: st) h P ↔ Z m code L (.int (x <<< (y &&& 31)) :: st) h P := Z_go rfl rfl
theorem Z_ishr {pc len a b : Nat} {x y : Int32} : Z m ((pc, .ishr, len, a, b, 0) :: code) L (.int y :: .int x :: st) h P ↔ Z m code L (.int (x >>> (y &&& 31)) :: st) h P := Z_go rfl rfl
theorem Z_iushr {pc len a b : Nat} {x y : Int32} : Z m ((pc, .iushr, len, a, b, 0) :: code) L (.int y :: .int x :: st) h P ↔ Z m code L (.int ((x.toUInt32 >>> (y.toUInt32 &&& Int32.toUInt32 31)).toInt32) :: st) h P := Z_go rfl rfl
theorem Z_idiv {pc len a b : Nat} {x y : Int32} : Z m ((pc, .idiv, len, a, b, 0) :: code) L (.int y :: .int x :: st) h P ↔ (y ≠ 0 ∧ Z m code L (.int (x / y) :: st) h P) := by
  by_cases hy : y = 0
  · rw [Z_no rfl (by show (if y = 0 then _ else _) = _; rw [if_pos hy])]
    exact ⟨False.elim, fun z => z.1 hy⟩
  · rw [Z_go rfl (by show (if y = 0 then _ else _) = _; rw [if_neg hy])]
    exact ⟨fun z => ⟨hy, z⟩, fun z => z.2⟩
theorem Z_irem {pc len a b : Nat} {x y : Int32} : Z m ((pc, .irem, len, a, b, 0) :: code) L (.int y :: .int x :: st) h P ↔ (y ≠ 0 ∧ Z m code L (.int (x - x / y * y) :: st) h P) := by
  by_cases hy : y = 0
  · rw [Z_no rfl (by show (if y = 0 then _ else _) = _; rw [if_pos hy])]
    exact ⟨False.elim, fun z => z.1 hy⟩
  · rw [Z_go rfl (by show (if y = 0 then _ else _) = _; rw [if_neg hy])]
    exact ⟨fun z => ⟨hy, z⟩, fun z => z.2⟩
theorem Z_dup {pc len a b : Nat} {v : Value} : Z m ((pc, .dup, len, a, b, 0) :: code) L (v :: st) h P ↔ Z m code L (v :: v :: st) h P := Z_go rfl rfl
theorem Z_dupx1 {pc len a b : Nat} {v w : Value} : Z m ((pc, .dup_x1, len, a, b, 0) :: code) L (v :: w :: st) h P ↔ Z m code L (v :: w :: v :: st) h P := Z_go rfl rfl
theorem Z_dup2 {pc len a b : Nat} {v w : Value} : Z m ((pc, .dup2, len, a, b, 0) :: code) L (v :: w :: st) h P ↔ Z m code L (v :: w :: v :: w :: st) h P := Z_go rfl rfl
theorem Z_pop {pc len a b : Nat} {v : Value} : Z m ((pc, .pop, len, a, b, 0) :: code) L (v :: st) h P ↔ Z m code L st h P := Z_go rfl rfl
theorem Z_if_eq {pc len a b : Nat} {x : Int32} {o : Int} : Z m ((pc, .ifCond .eq o, len, a, b, 0) :: code) L (.int x :: st) h P ↔ if x = 0 then Z m (sm_seek (mP m) a) L st h P else Z m code L st h P := by
  by_cases hx : x = 0
  · rw [if_pos hx]
    exact Z_go rfl (by show (if sm_cmp .eq x 0 = true then _ else _) = _; rw [if_pos (by rw [cmp_eq]; exact hx)])
  · rw [if_neg hx]
    exact Z_go rfl (by show (if sm_cmp .eq x 0 = true then _ else _) = _; rw [if_neg (by rw [cmp_eq]; exact hx)])
theorem Z_icmp_eq {pc len a b : Nat} {x y : Int32} {o : Int} : Z m ((pc, .if_icmp .eq o, len, a, b, 0) :: code) L (.int y :: .int x :: st) h P ↔ if x = y then Z m (sm_seek (mP m) a) L st h P else Z m code L st h P := by
  by_cases hx : x = y
  · rw [if_pos hx]
    exact Z_go rfl (by show (if sm_cmp .eq x y = true then _ else _) = _; rw [if_pos (by rw [cmp_eq]; exact hx)])
  · rw [if_neg hx]
    exact Z_go rfl (by show (if sm_cmp .eq x y = true then _ else _) = _; rw [if_neg (by rw [cmp_eq]; exact hx)])
theorem Z_if_ne {pc len a b : Nat} {x : Int32} {o : Int} : Z m ((pc, .ifCond .ne o, len, a, b, 0) :: code) L (.int x :: st) h P ↔ if x ≠ 0 then Z m (sm_seek (mP m) a) L st h P else Z m code L st h P := by
  by_cases hx : x ≠ 0
  · rw [if_pos hx]
    exact Z_go rfl (by show (if sm_cmp .ne x 0 = true then _ else _) = _; rw [if_pos (by rw [cmp_ne]; exact hx)])
  · rw [if_neg hx]
    exact Z_go rfl (by show (if sm_cmp .ne x 0 = true then _ else _) = _; rw [if_neg (by rw [cmp_ne]; exact hx)])
theorem Z_icmp_ne {pc len a b : Nat} {x y : Int32} {o : Int} : Z m ((pc, .if_icmp .ne o, len, a, b, 0) :: code) L (.int y :: .int x :: st) h P ↔ if x ≠ y then Z m (sm_seek (mP m) a) L st h P else Z m code L st h P := by
  by_cases hx : x ≠ y
  · rw [if_pos hx]
    exact Z_go rfl (by show (if sm_cmp .ne x y = true then _ else _) = _; rw [if_pos (by rw [cmp_ne]; exact hx)])
  · rw [if_neg hx]
    exact Z_go rfl (by show (if sm_cmp .ne x y = true then _ else _) = _; rw [if_neg (by rw [cmp_ne]; exact hx)])
theorem Z_if_lt {pc len a b : Nat} {x : Int32} {o : Int} : Z m ((pc, .ifCond .lt o, len, a, b, 0) :: code) L (.int x :: st) h P ↔ if x < 0 then Z m (sm_seek (mP m) a) L st h P else Z m code L st h P := by
  by_cases hx : x < 0
  · rw [if_pos hx]
    exact Z_go rfl (by show (if sm_cmp .lt x 0 = true then _ else _) = _; rw [if_pos (by rw [cmp_lt]; exact hx)])
  · rw [if_neg hx]
    exact Z_go rfl (by show (if sm_cmp .lt x 0 = true then _ else _) = _; rw [if_neg (by rw [cmp_lt]; exact hx)])
theorem Z_icmp_lt {pc len a b : Nat} {x y : Int32} {o : Int} : Z m ((pc, .if_icmp .lt o, len, a, b, 0) :: code) L (.int y :: .int x :: st) h P ↔ if x < y then Z m (sm_seek (mP m) a) L st h P else Z m code L st h P := by
  by_cases hx : x < y
  · rw [if_pos hx]
    exact Z_go rfl (by show (if sm_cmp .lt x y = true then _ else _) = _; rw [if_pos (by rw [cmp_lt]; exact hx)])
  · rw [if_neg hx]
    exact Z_go rfl (by show (if sm_cmp .lt x y = true then _ else _) = _; rw [if_neg (by rw [cmp_lt]; exact hx)])
theorem Z_if_le {pc len a b : Nat} {x : Int32} {o : Int} : Z m ((pc, .ifCond .le o, len, a, b, 0) :: code) L (.int x :: st) h P ↔ if x ≤ 0 then Z m (sm_seek (mP m) a) L st h P else Z m code L st h P := by
  by_cases hx : x ≤ 0
  · rw [if_pos hx]
    exact Z_go rfl (by show (if sm_cmp .le x 0 = true then _ else _) = _; rw [if_pos (by rw [cmp_le]; exact hx)])
  · rw [if_neg hx]
    exact Z_go rfl (by show (if sm_cmp .le x 0 = true then _ else _) = _; rw [if_neg (by rw [cmp_le]; exact hx)])
theorem Z_icmp_le {pc len a b : Nat} {x y : Int32} {o : Int} : Z m ((pc, .if_icmp .le o, len, a, b, 0) :: code) L (.int y :: .int x :: st) h P ↔ if x ≤ y then Z m (sm_seek (mP m) a) L st h P else Z m code L st h P := by
  by_cases hx : x ≤ y
  · rw [if_pos hx]
    exact Z_go rfl (by show (if sm_cmp .le x y = true then _ else _) = _; rw [if_pos (by rw [cmp_le]; exact hx)])
  · rw [if_neg hx]
    exact Z_go rfl (by show (if sm_cmp .le x y = true then _ else _) = _; rw [if_neg (by rw [cmp_le]; exact hx)])
theorem Z_if_ge {pc len a b : Nat} {x : Int32} {o : Int} : Z m ((pc, .ifCond .ge o, len, a, b, 0) :: code) L (.int x :: st) h P ↔ if 0 ≤ x then Z m (sm_seek (mP m) a) L st h P else Z m code L st h P := by
  by_cases hx : 0 ≤ x
  · rw [if_pos hx]
    exact Z_go rfl (by show (if sm_cmp .ge x 0 = true then _ else _) = _; rw [if_pos (by rw [cmp_ge]; exact hx)])
  · rw [if_neg hx]
    exact Z_go rfl (by show (if sm_cmp .ge x 0 = true then _ else _) = _; rw [if_neg (by rw [cmp_ge]; exact hx)])
theorem Z_icmp_ge {pc len a b : Nat} {x y : Int32} {o : Int} : Z m ((pc, .if_icmp .ge o, len, a, b, 0) :: code) L (.int y :: .int x :: st) h P ↔ if y ≤ x then Z m (sm_seek (mP m) a) L st h P else Z m code L st h P := by
  by_cases hx : y ≤ x
  · rw [if_pos hx]
    exact Z_go rfl (by show (if sm_cmp .ge x y = true then _ else _) = _; rw [if_pos (by rw [cmp_ge]; exact hx)])
  · rw [if_neg hx]
    exact Z_go rfl (by show (if sm_cmp .ge x y = true then _ else _) = _; rw [if_neg (by rw [cmp_ge]; exact hx)])
theorem Z_if_gt {pc len a b : Nat} {x : Int32} {o : Int} : Z m ((pc, .ifCond .gt o, len, a, b, 0) :: code) L (.int x :: st) h P ↔ if 0 < x then Z m (sm_seek (mP m) a) L st h P else Z m code L st h P := by
  by_cases hx : 0 < x
  · rw [if_pos hx]
    exact Z_go rfl (by show (if sm_cmp .gt x 0 = true then _ else _) = _; rw [if_pos (by rw [cmp_gt]; exact hx)])
  · rw [if_neg hx]
    exact Z_go rfl (by show (if sm_cmp .gt x 0 = true then _ else _) = _; rw [if_neg (by rw [cmp_gt]; exact hx)])
theorem Z_icmp_gt {pc len a b : Nat} {x y : Int32} {o : Int} : Z m ((pc, .if_icmp .gt o, len, a, b, 0) :: code) L (.int y :: .int x :: st) h P ↔ if y < x then Z m (sm_seek (mP m) a) L st h P else Z m code L st h P := by
  by_cases hx : y < x
  · rw [if_pos hx]
    exact Z_go rfl (by show (if sm_cmp .gt x y = true then _ else _) = _; rw [if_pos (by rw [cmp_gt]; exact hx)])
  · rw [if_neg hx]
    exact Z_go rfl (by show (if sm_cmp .gt x y = true then _ else _) = _; rw [if_neg (by rw [cmp_gt]; exact hx)])
theorem Z_acmp_eqq {pc len a b : Nat} {x y : Option Nat} {o : Int} : Z m ((pc, .if_acmp .eq o, len, a, b, 0) :: code) L (va_rf y :: va_rf x :: st) h P ↔ if x = y then Z m (sm_seek (mP m) a) L st h P else Z m code L st h P := by
  by_cases hx : x = y
  · rw [if_pos hx]
    refine Z_go rfl ?_
    show (match sm_rf (va_rf y), sm_rf (va_rf x) with | some y, some x => (if x = y then _ else _) | _, _ => none) = _
    rw [sm_rf_va, sm_rf_va]
    exact if_pos hx
  · rw [if_neg hx]
    refine Z_go rfl ?_
    show (match sm_rf (va_rf y), sm_rf (va_rf x) with | some y, some x => (if x = y then _ else _) | _, _ => none) = _
    rw [sm_rf_va, sm_rf_va]
    exact if_neg hx
theorem Z_acmp_neq {pc len a b : Nat} {x y : Option Nat} {o : Int} : Z m ((pc, .if_acmp .ne o, len, a, b, 0) :: code) L (va_rf y :: va_rf x :: st) h P ↔ if x = y then Z m code L st h P else Z m (sm_seek (mP m) a) L st h P := by
  by_cases hx : x = y
  · rw [if_pos hx]
    refine Z_go rfl ?_
    show (match sm_rf (va_rf y), sm_rf (va_rf x) with | some y, some x => (if x = y then _ else _) | _, _ => none) = _
    rw [sm_rf_va, sm_rf_va]
    exact if_pos hx
  · rw [if_neg hx]
    refine Z_go rfl ?_
    show (match sm_rf (va_rf y), sm_rf (va_rf x) with | some y, some x => (if x = y then _ else _) | _, _ => none) = _
    rw [sm_rf_va, sm_rf_va]
    exact if_neg hx
theorem Z_acmp_eqq1 {pc len a b : Nat} {x y : Option Nat} {o : Int} : Z m ((pc, .if_acmp .eq o, len, a, b, 0) :: code) L (va_rf y :: va_rf x :: st) h P ↔ if x = y then Z m (sm_seek (mP m) a) L st h P else Z m code L st h P := Z_acmp_eqq
theorem Z_acmp_eqq2 {pc len a b : Nat} {x y : Nat} {o : Int} : Z m ((pc, .if_acmp .eq o, len, a, b, 0) :: code) L (.ref y :: .ref x :: st) h P ↔ if x = y then Z m (sm_seek (mP m) a) L st h P else Z m code L st h P := (Z_acmp_eqq (x := some x) (y := some y)).trans (by simp only [Option.some.injEq])
theorem Z_acmp_eqq3 {pc len a b : Nat} {x : Nat} {y : Option Nat} {o : Int} : Z m ((pc, .if_acmp .eq o, len, a, b, 0) :: code) L (va_rf y :: .ref x :: st) h P ↔ if some x = y then Z m (sm_seek (mP m) a) L st h P else Z m code L st h P := Z_acmp_eqq (x := some x) (y := y)
theorem Z_acmp_eqq4 {pc len a b : Nat} {x : Option Nat} {y : Nat} {o : Int} : Z m ((pc, .if_acmp .eq o, len, a, b, 0) :: code) L (.ref y :: va_rf x :: st) h P ↔ if x = some y then Z m (sm_seek (mP m) a) L st h P else Z m code L st h P := Z_acmp_eqq (x := x) (y := some y)
theorem Z_acmp_neq1 {pc len a b : Nat} {x y : Option Nat} {o : Int} : Z m ((pc, .if_acmp .ne o, len, a, b, 0) :: code) L (va_rf y :: va_rf x :: st) h P ↔ if x = y then Z m code L st h P else Z m (sm_seek (mP m) a) L st h P := Z_acmp_neq
theorem Z_acmp_neq2 {pc len a b : Nat} {x y : Nat} {o : Int} : Z m ((pc, .if_acmp .ne o, len, a, b, 0) :: code) L (.ref y :: .ref x :: st) h P ↔ if x = y then Z m code L st h P else Z m (sm_seek (mP m) a) L st h P := (Z_acmp_neq (x := some x) (y := some y)).trans (by simp only [Option.some.injEq])
theorem Z_acmp_neq3 {pc len a b : Nat} {x : Nat} {y : Option Nat} {o : Int} : Z m ((pc, .if_acmp .ne o, len, a, b, 0) :: code) L (va_rf y :: .ref x :: st) h P ↔ if some x = y then Z m code L st h P else Z m (sm_seek (mP m) a) L st h P := Z_acmp_neq (x := some x) (y := y)
theorem Z_acmp_neq4 {pc len a b : Nat} {x : Option Nat} {y : Nat} {o : Int} : Z m ((pc, .if_acmp .ne o, len, a, b, 0) :: code) L (.ref y :: va_rf x :: st) h P ↔ if x = some y then Z m code L st h P else Z m (sm_seek (mP m) a) L st h P := Z_acmp_neq (x := x) (y := some y)
theorem Z_ifnull {pc len a b : Nat} {x : Nat} {o : Int} : Z m ((pc, .ifnull o, len, a, b, 0) :: code) L (.ref x :: st) h P ↔ Z m code L st h P := Z_go rfl rfl
theorem Z_ifnullN {pc len a b : Nat} {o : Int} : Z m ((pc, .ifnull o, len, a, b, 0) :: code) L (.null :: st) h P ↔ Z m (sm_seek (mP m) a) L st h P := Z_go rfl rfl
theorem Z_ifnullq {pc len a b : Nat} {x : Option Nat} {o : Int} : Z m ((pc, .ifnull o, len, a, b, 0) :: code) L (va_rf x :: st) h P ↔ if x = none then Z m (sm_seek (mP m) a) L st h P else Z m code L st h P := by
  cases x with
  | none => rw [if_pos rfl]; exact Z_go rfl rfl
  | some y => rw [if_neg (fun z => by cases z)]; exact Z_go rfl rfl
theorem Z_ifnonnull {pc len a b : Nat} {x : Nat} {o : Int} : Z m ((pc, .ifnonnull o, len, a, b, 0) :: code) L (.ref x :: st) h P ↔ Z m (sm_seek (mP m) a) L st h P := Z_go rfl rfl
theorem Z_ifnonnullN {pc len a b : Nat} {o : Int} : Z m ((pc, .ifnonnull o, len, a, b, 0) :: code) L (.null :: st) h P ↔ Z m code L st h P := Z_go rfl rfl
theorem Z_ifnonnullq {pc len a b : Nat} {x : Option Nat} {o : Int} : Z m ((pc, .ifnonnull o, len, a, b, 0) :: code) L (va_rf x :: st) h P ↔ if x = none then Z m code L st h P else Z m (sm_seek (mP m) a) L st h P := by
  cases x with
  | none => rw [if_pos rfl]; exact Z_go rfl rfl
  | some y => rw [if_neg (fun z => by cases z)]; exact Z_go rfl rfl
theorem Z_goto {pc len a b : Nat} {o : Int} : Z m ((pc, .goto o, len, a, b, 0) :: code) L st h P ↔ Z m (sm_seek (mP m) a) L st h P := Z_go rfl rfl
theorem Z_table {pc len a b : Nat} {d lo hi : Int} {offs : Array Int} {x : Int32} {t : Nat} (ht : sm_tab pc d lo hi offs x = some t) : Z m ((pc, .tableswitch d lo hi offs, len, a, b, 0) :: code) L (.int x :: st) h P ↔ Z m (sm_seek (mP m) t) L st h P := Z_go rfl (by show (match sm_tab pc d lo hi offs x with | some t => some (sm_seek (mP m) t, L, st, h) | none => none) = _; rw [ht])
theorem Z_getI {pc len a b : Nat} {i x : Nat} : Z m ((pc, .getfield i, len, a, b, 0) :: code) L (.ref x :: st) h P ↔ (kd h x = a ∧ Z m code L (.int (fI h b x) :: st) h P) := by
  by_cases hx : kd h x = a
  · rw [Z_go rfl (by show (if kd h x = a then _ else _) = _; rw [if_pos hx])]
    exact ⟨fun z => ⟨hx, z⟩, fun z => z.2⟩
  · rw [Z_no rfl (by show (if kd h x = a then _ else _) = _; rw [if_neg hx])]
    exact ⟨False.elim, fun z => hx z.1⟩
theorem Z_getZ {pc len a b : Nat} {i x : Nat} : Z m ((pc, .getfield i, len, a, b, 2) :: code) L (.ref x :: st) h P ↔ (kd h x = a ∧ Z m code L (.int (fI h b x) :: st) h P) := by
  by_cases hx : kd h x = a
  · rw [Z_go rfl (by show (if kd h x = a then _ else _) = _; rw [if_pos hx])]
    exact ⟨fun z => ⟨hx, z⟩, fun z => z.2⟩
  · rw [Z_no rfl (by show (if kd h x = a then _ else _) = _; rw [if_neg hx])]
    exact ⟨False.elim, fun z => hx z.1⟩
theorem Z_getR {pc len a b : Nat} {i x : Nat} : Z m ((pc, .getfield i, len, a, b, 1) :: code) L (.ref x :: st) h P ↔ (kd h x = a ∧ Z m code L (va_rf (fR h b x) :: st) h P) := by
  by_cases hx : kd h x = a
  · rw [Z_go rfl (by show (if kd h x = a then _ else _) = _; rw [if_pos hx])]
    exact ⟨fun z => ⟨hx, z⟩, fun z => z.2⟩
  · rw [Z_no rfl (by show (if kd h x = a then _ else _) = _; rw [if_neg hx])]
    exact ⟨False.elim, fun z => hx z.1⟩
theorem Z_putI {pc len a b : Nat} {i x : Nat} {v : Int32} : Z m ((pc, .putfield i, len, a, b, 0) :: code) L (.int v :: .ref x :: st) h P ↔ (kd h x = a ∧ Z m code L st (wfI h b x v) P) := by
  by_cases hx : kd h x = a
  · rw [Z_go rfl (by show (if kd h x = a then _ else _) = _; rw [if_pos hx])]
    exact ⟨fun z => ⟨hx, z⟩, fun z => z.2⟩
  · rw [Z_no rfl (by show (if kd h x = a then _ else _) = _; rw [if_neg hx])]
    exact ⟨False.elim, fun z => hx z.1⟩
theorem Z_putR {pc len a b : Nat} {i x v : Nat} : Z m ((pc, .putfield i, len, a, b, 1) :: code) L (.ref v :: .ref x :: st) h P ↔ (kd h x = a ∧ Z m code L st (wfR h b x (some v)) P) := by
  by_cases hx : kd h x = a
  · rw [Z_go rfl (by show (if kd h x = a then _ else _) = _; rw [if_pos hx])]
    exact ⟨fun z => ⟨hx, z⟩, fun z => z.2⟩
  · rw [Z_no rfl (by show (if kd h x = a then _ else _) = _; rw [if_neg hx])]
    exact ⟨False.elim, fun z => hx z.1⟩
theorem Z_putN {pc len a b : Nat} {i x : Nat} : Z m ((pc, .putfield i, len, a, b, 1) :: code) L (.null :: .ref x :: st) h P ↔ (kd h x = a ∧ Z m code L st (wfR h b x none) P) := by
  by_cases hx : kd h x = a
  · rw [Z_go rfl (by show (if kd h x = a then _ else _) = _; rw [if_pos hx])]
    exact ⟨fun z => ⟨hx, z⟩, fun z => z.2⟩
  · rw [Z_no rfl (by show (if kd h x = a then _ else _) = _; rw [if_neg hx])]
    exact ⟨False.elim, fun z => hx z.1⟩
theorem Z_putQ {pc len a b : Nat} {i x : Nat} {v : Option Nat} : Z m ((pc, .putfield i, len, a, b, 1) :: code) L (va_rf v :: .ref x :: st) h P ↔ (kd h x = a ∧ Z m code L st (wfR h b x v) P) := by
  cases v with
  | none => exact Z_putN
  | some y => exact Z_putR
theorem Z_putZ {pc len a b : Nat} {i x : Nat} {v : Int32} : Z m ((pc, .putfield i, len, a, b, 2) :: code) L (.int v :: .ref x :: st) h P ↔ (kd h x = a ∧ (v = 0 ∨ v = 1) ∧ Z m code L st (wfI h b x v) P) := by
  by_cases hx : kd h x = a
  · by_cases hv : v = 0 ∨ v = 1
    · rw [Z_go rfl (by show (if kd h x = a then (if v = 0 ∨ v = 1 then _ else _) else _) = _; rw [if_pos hx, if_pos hv])]
      exact ⟨fun z => ⟨hx, hv, z⟩, fun z => z.2.2⟩
    · rw [Z_no rfl (by show (if kd h x = a then (if v = 0 ∨ v = 1 then _ else _) else _) = _; rw [if_pos hx, if_neg hv])]
      exact ⟨False.elim, fun z => hv z.2.1⟩
  · rw [Z_no rfl (by show (if kd h x = a then _ else _) = _; rw [if_neg hx])]
    exact ⟨False.elim, fun z => hx z.1⟩
theorem Z_new {pc len a b : Nat} {i : Nat} : Z m ((pc, .new i, len, a, b, 0) :: code) L st h P ↔ Z m code L (.ref (sz h) :: st) (hnew h a 0 b) P := Z_go rfl rfl
theorem Z_newarray {pc len a b : Nat} {t : ArrayType} {x : Int32} : Z m ((pc, .newarray t, len, a, b, 0) :: code) L (.int x :: st) h P ↔ (¬ x < 0 ∧ x.toNatClampNeg ≤ 100000000 ∧ Z m code L (.ref (sz h) :: st) (hnew h a x.toNatClampNeg x.toNatClampNeg) P) := by
  by_cases hx : ¬ x < 0 ∧ x.toNatClampNeg ≤ 100000000
  · rw [Z_go rfl (by show (match sm_nat x with | some n => some (code, L, Value.ref (sz h) :: st, hnew h a n n) | none => none) = _; unfold sm_nat; rw [if_pos hx])]
    exact ⟨fun z => ⟨hx.1, hx.2, z⟩, fun z => z.2.2⟩
  · rw [Z_no rfl (by show (match sm_nat x with | some n => some (code, L, Value.ref (sz h) :: st, hnew h a n n) | none => none) = _; unfold sm_nat; rw [if_neg hx])]
    exact ⟨False.elim, fun z => hx ⟨z.1, z.2.1⟩⟩
theorem Z_anewarray {pc len a b : Nat} {t : Nat} {x : Int32} : Z m ((pc, .anewarray t, len, a, b, 0) :: code) L (.int x :: st) h P ↔ (¬ x < 0 ∧ x.toNatClampNeg ≤ 100000000 ∧ Z m code L (.ref (sz h) :: st) (hnew h a x.toNatClampNeg x.toNatClampNeg) P) := by
  by_cases hx : ¬ x < 0 ∧ x.toNatClampNeg ≤ 100000000
  · rw [Z_go rfl (by show (match sm_nat x with | some n => some (code, L, Value.ref (sz h) :: st, hnew h a n n) | none => none) = _; unfold sm_nat; rw [if_pos hx])]
    exact ⟨fun z => ⟨hx.1, hx.2, z⟩, fun z => z.2.2⟩
  · rw [Z_no rfl (by show (match sm_nat x with | some n => some (code, L, Value.ref (sz h) :: st, hnew h a n n) | none => none) = _; unfold sm_nat; rw [if_neg hx])]
    exact ⟨False.elim, fun z => hx ⟨z.1, z.2.1⟩⟩
theorem Z_alen {pc len a b : Nat} {x : Nat} : Z m ((pc, .arraylength, len, a, b, 0) :: code) L (.ref x :: st) h P ↔ (sm_isA (kd h x) = true ∧ Z m code L (.int (nI (ln h x)) :: st) h P) := by
  by_cases hx : sm_isA (kd h x) = true
  · rw [Z_go rfl (by show (if sm_isA (kd h x) = true then _ else _) = _; rw [if_pos hx])]
    exact ⟨fun z => ⟨hx, z⟩, fun z => z.2⟩
  · rw [Z_no rfl (by show (if sm_isA (kd h x) = true then _ else _) = _; rw [if_neg hx])]
    exact ⟨False.elim, fun z => hx z.1⟩
theorem Z_iaload {pc len a b : Nat} {i : Int32} {x j : Nat}  (hi : sm_ix i (ln h x) = some j) : Z m ((pc, .iaload, len, a, b, 0) :: code) L (.int i :: .ref x :: st) h P ↔ ((kd h x = 20 ∨ kd h x = 41) ∧ Z m code L (.int (aI h x j) :: st) h P) := by
  have harr : sm_arr (.int i :: .ref x :: st) h = some (x, j, st) := by
    show (match sm_ix i (ln h x) with | some j => some (x, j, st) | none => none) = _
    rw [hi]
  by_cases hx : (kd h x = 20 ∨ kd h x = 41)
  · rw [Z_go rfl (by simp only [sm_step, harr, sm_in_int]; rw [if_pos hx])]
    exact ⟨fun z => ⟨hx, z⟩, fun z => z.2⟩
  · rw [Z_no rfl (by simp only [sm_step, harr, sm_in_int]; rw [if_neg hx])]
    exact ⟨False.elim, fun z => hx z.1⟩
theorem Z_baload {pc len a b : Nat} {i : Int32} {x j : Nat}  (hi : sm_ix i (ln h x) = some j) : Z m ((pc, .baload, len, a, b, 0) :: code) L (.int i :: .ref x :: st) h P ↔ (kd h x = 21 ∧ Z m code L (.int (aI h x j) :: st) h P) := by
  have harr : sm_arr (.int i :: .ref x :: st) h = some (x, j, st) := by
    show (match sm_ix i (ln h x) with | some j => some (x, j, st) | none => none) = _
    rw [hi]
  by_cases hx : kd h x = 21
  · rw [Z_go rfl (by simp only [sm_step, harr, sm_in_int]; rw [if_pos hx])]
    exact ⟨fun z => ⟨hx, z⟩, fun z => z.2⟩
  · rw [Z_no rfl (by simp only [sm_step, harr, sm_in_int]; rw [if_neg hx])]
    exact ⟨False.elim, fun z => hx z.1⟩
theorem Z_aaload {pc len a b : Nat} {i : Int32} {x j : Nat}  (hi : sm_ix i (ln h x) = some j) : Z m ((pc, .aaload, len, a, b, 0) :: code) L (.int i :: .ref x :: st) h P ↔ ((22 ≤ kd h x ∧ kd h x ≤ 27) ∧ Z m code L (va_rf (aR h x j) :: st) h P) := by
  have harr : sm_arr (.int i :: .ref x :: st) h = some (x, j, st) := by
    show (match sm_ix i (ln h x) with | some j => some (x, j, st) | none => none) = _
    rw [hi]
  by_cases hx : (22 ≤ kd h x ∧ kd h x ≤ 27)
  · rw [Z_go rfl (by simp only [sm_step, harr, sm_in_int]; rw [if_pos hx])]
    exact ⟨fun z => ⟨hx, z⟩, fun z => z.2⟩
  · rw [Z_no rfl (by simp only [sm_step, harr, sm_in_int]; rw [if_neg hx])]
    exact ⟨False.elim, fun z => hx z.1⟩
theorem Z_iastore {pc len a b : Nat} {i : Int32} {x j : Nat} {v : Int32} (hi : sm_ix i (ln h x) = some j) : Z m ((pc, .iastore, len, a, b, 0) :: code) L (.int v :: .int i :: .ref x :: st) h P ↔ (kd h x = 20 ∧ Z m code L st (waI h x j v) P) := by
  have harr : sm_arr (.int i :: .ref x :: st) h = some (x, j, st) := by
    show (match sm_ix i (ln h x) with | some j => some (x, j, st) | none => none) = _
    rw [hi]
  by_cases hx : kd h x = 20
  · rw [Z_go rfl (by simp only [sm_step, harr, sm_in_int]; rw [if_pos hx])]
    exact ⟨fun z => ⟨hx, z⟩, fun z => z.2⟩
  · rw [Z_no rfl (by simp only [sm_step, harr, sm_in_int]; rw [if_neg hx])]
    exact ⟨False.elim, fun z => hx z.1⟩
theorem Z_bastore {pc len a b : Nat} {i : Int32} {x j : Nat} {v : Int32} (hi : sm_ix i (ln h x) = some j) : Z m ((pc, .bastore, len, a, b, 0) :: code) L (.int v :: .int i :: .ref x :: st) h P ↔ ((kd h x = 21 ∧ (v = 0 ∨ v = 1)) ∧ Z m code L st (waI h x j v) P) := by
  have harr : sm_arr (.int i :: .ref x :: st) h = some (x, j, st) := by
    show (match sm_ix i (ln h x) with | some j => some (x, j, st) | none => none) = _
    rw [hi]
  by_cases hx : (kd h x = 21 ∧ (v = 0 ∨ v = 1))
  · rw [Z_go rfl (by simp only [sm_step, harr, sm_in_int]; rw [if_pos hx])]
    exact ⟨fun z => ⟨hx, z⟩, fun z => z.2⟩
  · rw [Z_no rfl (by simp only [sm_step, harr, sm_in_int]; rw [if_neg hx])]
    exact ⟨False.elim, fun z => hx z.1⟩
theorem Z_aastore {pc len a b : Nat} {i : Int32} {x j : Nat} {v : Nat} (hi : sm_ix i (ln h x) = some j) : Z m ((pc, .aastore, len, a, b, 0) :: code) L (.ref v :: .int i :: .ref x :: st) h P ↔ (sm_may (kd h x) (kd h v) = true ∧ Z m code L st (waR h x j (some v)) P) := by
  have harr : sm_arr (.int i :: .ref x :: st) h = some (x, j, st) := by
    show (match sm_ix i (ln h x) with | some j => some (x, j, st) | none => none) = _
    rw [hi]
  by_cases hx : sm_may (kd h x) (kd h v) = true
  · rw [Z_go rfl (by simp only [sm_step, harr, sm_in_int, sm_rf]; rw [if_pos hx])]
    exact ⟨fun z => ⟨hx, z⟩, fun z => z.2⟩
  · rw [Z_no rfl (by simp only [sm_step, harr, sm_in_int, sm_rf]; rw [if_neg hx])]
    exact ⟨False.elim, fun z => hx z.1⟩
theorem Z_aastoreN {pc len a b : Nat} {i : Int32} {x j : Nat}  (hi : sm_ix i (ln h x) = some j) : Z m ((pc, .aastore, len, a, b, 0) :: code) L (.null :: .int i :: .ref x :: st) h P ↔ ((22 ≤ kd h x ∧ kd h x ≤ 27) ∧ Z m code L st (waR h x j none) P) := by
  have harr : sm_arr (.int i :: .ref x :: st) h = some (x, j, st) := by
    show (match sm_ix i (ln h x) with | some j => some (x, j, st) | none => none) = _
    rw [hi]
  by_cases hx : (22 ≤ kd h x ∧ kd h x ≤ 27)
  · rw [Z_go rfl (by simp only [sm_step, harr, sm_in_int, sm_rf]; rw [if_pos hx])]
    exact ⟨fun z => ⟨hx, z⟩, fun z => z.2⟩
  · rw [Z_no rfl (by simp only [sm_step, harr, sm_in_int, sm_rf]; rw [if_neg hx])]
    exact ⟨False.elim, fun z => hx z.1⟩
theorem Z_cast {pc len a b : Nat} {i x : Nat} : Z m ((pc, .checkcast i, len, a, b, 0) :: code) L (.ref x :: st) h P ↔ (kd h x = a ∧ Z m code L (.ref x :: st) h P) := by
  by_cases hx : kd h x = a
  · rw [Z_go rfl (by show (if kd h x = a then _ else _) = _; rw [if_pos hx])]
    exact ⟨fun z => ⟨hx, z⟩, fun z => z.2⟩
  · rw [Z_no rfl (by show (if kd h x = a then _ else _) = _; rw [if_neg hx])]
    exact ⟨False.elim, fun z => hx z.1⟩
theorem Z_objInit {pc len b : Nat} {i x : Nat} : Z m ((pc, .invokespecial i, len, 1000, b, 1) :: code) L (.ref x :: st) h P ↔ (st.length ≤ 8 ∧ Z m code L st h P) := by
  by_cases hx : st.length ≤ 8
  · rw [Z_go rfl (by show (if st.length ≤ 8 then _ else _) = _; rw [if_pos hx])]
    exact ⟨fun z => ⟨hx, z⟩, fun z => z.2⟩
  · rw [Z_no rfl (by show (if st.length ≤ 8 then _ else _) = _; rw [if_neg hx])]
    exact ⟨False.elim, fun z => hx z.1⟩
theorem Z_clone {pc len b : Nat} {i x : Nat} : Z m ((pc, .invokevirtual i, len, 1001, b, 0) :: code) L (.ref x :: st) h P ↔ ((kd h x = 20 ∧ st.length ≤ 8) ∧ Z m code L (.ref (sz h) :: st) (hcln h x) P) := by
  by_cases hx : (kd h x = 20 ∧ st.length ≤ 8)
  · rw [Z_go rfl (by show (if kd h x = 20 ∧ st.length ≤ 8 then _ else _) = _; rw [if_pos hx])]
    exact ⟨fun z => ⟨hx, z⟩, fun z => z.2⟩
  · rw [Z_no rfl (by show (if kd h x = 20 ∧ st.length ≤ 8 then _ else _) = _; rw [if_neg hx])]
    exact ⟨False.elim, fun z => hx z.1⟩
theorem Z_getClass {pc len b : Nat} {i x : Nat} : Z m ((pc, .invokevirtual i, len, 1003, b, 0) :: code) L (.ref x :: st) h P ↔ ((kd h x = 22 ∧ st.length ≤ 8) ∧ Z m code L (.ref (gc h 1) :: st) h P) := by
  by_cases hx : (kd h x = 22 ∧ st.length ≤ 8)
  · rw [Z_go rfl (by show (if kd h x = 22 ∧ st.length ≤ 8 then _ else _) = _; rw [if_pos hx])]
    exact ⟨fun z => ⟨hx, z⟩, fun z => z.2⟩
  · rw [Z_no rfl (by show (if kd h x = 22 ∧ st.length ≤ 8 then _ else _) = _; rw [if_neg hx])]
    exact ⟨False.elim, fun z => hx z.1⟩
theorem Z_copy {pc len b : Nat} {i x x0 : Nat} {n dp sp : Int32} : Z m ((pc, .invokestatic i, len, 1002, b, 2) :: code) L (.int n :: .int dp :: .ref x :: .int sp :: .ref x0 :: st) h P ↔ ((kd h x = 22 ∧ kd h x0 = 22 ∧ ¬ n < 0 ∧ ¬ dp < 0 ∧ ¬ sp < 0 ∧ sp.toNatClampNeg + n.toNatClampNeg ≤ ln h x0 ∧ dp.toNatClampNeg + n.toNatClampNeg ≤ ln h x ∧ st.length ≤ 8) ∧ Z m code L st (hcpy h x0 sp.toNatClampNeg x dp.toNatClampNeg n.toNatClampNeg) P) := by
  by_cases hx : (kd h x = 22 ∧ kd h x0 = 22 ∧ ¬ n < 0 ∧ ¬ dp < 0 ∧ ¬ sp < 0 ∧ sp.toNatClampNeg + n.toNatClampNeg ≤ ln h x0 ∧ dp.toNatClampNeg + n.toNatClampNeg ≤ ln h x ∧ st.length ≤ 8)
  · rw [Z_go rfl (by show (if (kd h x = 22 ∧ kd h x0 = 22 ∧ ¬ n < 0 ∧ ¬ dp < 0 ∧ ¬ sp < 0 ∧ sp.toNatClampNeg + n.toNatClampNeg ≤ ln h x0 ∧ dp.toNatClampNeg + n.toNatClampNeg ≤ ln h x ∧ st.length ≤ 8) then _ else _) = _; rw [if_pos hx])]
    exact ⟨fun z => ⟨hx, z⟩, fun z => z.2⟩
  · rw [Z_no rfl (by show (if (kd h x = 22 ∧ kd h x0 = 22 ∧ ¬ n < 0 ∧ ¬ dp < 0 ∧ ¬ sp < 0 ∧ sp.toNatClampNeg + n.toNatClampNeg ≤ ln h x0 ∧ dp.toNatClampNeg + n.toNatClampNeg ≤ ln h x ∧ st.length ≤ 8) then _ else _) = _; rw [if_neg hx])]
    exact ⟨False.elim, fun z => hx z.1⟩
theorem Z_max {pc len b : Nat} {i : Nat} {x y : Int32} : Z m ((pc, .invokestatic i, len, 1004, b, 2) :: code) L (.int y :: .int x :: st) h P ↔ (st.length ≤ 8 ∧ Z m code L (.int (if x < y then y else x) :: st) h P) := by
  by_cases hx : st.length ≤ 8
  · rw [Z_go rfl (by show (if st.length ≤ 8 then _ else _) = _; rw [if_pos hx])]
    exact ⟨fun z => ⟨hx, z⟩, fun z => z.2⟩
  · rw [Z_no rfl (by show (if st.length ≤ 8 then _ else _) = _; rw [if_neg hx])]
    exact ⟨False.elim, fun z => hx z.1⟩
theorem Z_min {pc len b : Nat} {i : Nat} {x y : Int32} : Z m ((pc, .invokestatic i, len, 1005, b, 2) :: code) L (.int y :: .int x :: st) h P ↔ (st.length ≤ 8 ∧ Z m code L (.int (if y < x then y else x) :: st) h P) := by
  by_cases hx : st.length ≤ 8
  · rw [Z_go rfl (by show (if st.length ≤ 8 then _ else _) = _; rw [if_pos hx])]
    exact ⟨fun z => ⟨hx, z⟩, fun z => z.2⟩
  · rw [Z_no rfl (by show (if st.length ≤ 8 then _ else _) = _; rw [if_neg hx])]
    exact ⟨False.elim, fun z => hx z.1⟩
theorem Z_ret {pc len a b : Nat} (hr : mR m = none) : Z m ((pc, .return_, len, a, b, 0) :: code) L [] h P ↔ P none h := Z_rt rfl (by show (match ([] : List Value), mR m with | [], none => some (none, h) | _, _ => none) = _; rw [hr])
theorem Z_iret {pc len a b : Nat} {x : Int32} (hr : mR m = some .int) : Z m ((pc, .ireturn, len, a, b, 0) :: code) L [.int x] h P ↔ P (some (.int x)) h := Z_rt rfl (by simp only [sm_ret, sm_in_int, hr])
theorem Z_zret {pc len a b : Nat} {x : Int32} (hr : mR m = some .boolean) (hx : x = 0 ∨ x = 1) : Z m ((pc, .ireturn, len, a, b, 0) :: code) L [.int x] h P ↔ P (some (.int x)) h := Z_rt rfl (by simp only [sm_ret, sm_in_int, hr, if_pos hx])
theorem Z_aretq {pc len a b : Nat} {x : Option Nat} {n : String} (hr : mR m = some (.object n)) : Z m ((pc, .areturn, len, a, b, 0) :: code) L [va_rf x] h P ↔ P (some (va_rf x)) h := Z_rt rfl (by simp only [sm_ret, sm_rf_va, hr])
theorem Z_aret {pc len a b : Nat} {x : Nat} {n : String} (hr : mR m = some (.object n)) : Z m ((pc, .areturn, len, a, b, 0) :: code) L [.ref x] h P ↔ P (some (.ref x)) h := Z_aretq (x := some x) hr
theorem Z_aretn {pc len a b : Nat} {n : String} (hr : mR m = some (.object n)) : Z m ((pc, .areturn, len, a, b, 0) :: code) L [.null] h P ↔ P (some .null) h := Z_aretq (x := none) hr
theorem Z_aretA {pc len a b : Nat} {x : Nat} {n : FieldType} (hr : mR m = some (.array n)) : Z m ((pc, .areturn, len, a, b, 0) :: code) L [.ref x] h P ↔ P (some (.ref x)) h := Z_rt rfl (by simp only [sm_ret, sm_rf, hr])
end ZR
theorem beq_of2 {a b : Nat} (h : a = b) : Nat.beq a b = true := by rw [h]; exact Nat.beq_refl b
theorem lt_0p (a : Nat) : sm_lit a 0 = nI a := rfl
theorem lt_1n (a : Nat) : sm_lit a 1 = - nI a := rfl
theorem va_some (a : Nat) : va_rf (some a) = .ref a := rfl
theorem va_none : va_rf none = .null := rfl
theorem ix_nI {j n : Nat} (h : j < n) (hn : n < 2 ^ 31) : sm_ix (nI j) n = some j := by
  unfold sm_ix
  rw [nI_clamp (by omega), if_pos ⟨nI_pos (by omega), h⟩]
end
section
section ZC
variable {m : MI} {code : List Ent} {L : Lv} {st : List Value} {h : Hp} {P : Option Value → Hp → Prop} {pc len b i : Nat}
theorem C_X0_init {x : Nat} {v1 v2 v3 v4 : Value} : Z m ((pc, .invokespecial i, len, 0, b, 1) :: code) L (v4 :: v3 :: v2 :: v1 :: .ref x :: st) h P ↔ (st.length ≤ 8 ∧ Ev M_X0_init [.ref x, v1, v2, v3, v4] h (fun r h' => Z m code L (r.toList ++ st) h' P)) := by
  rw [Z_call (m' := M_X0_init) rfl rfl]
  exact ⟨fun q => ⟨q.1.2.1, q.2⟩, fun q => ⟨⟨Nat.le_add_left _ _, q.1, rfl⟩, q.2⟩⟩
theorem C_X0_init_n {x : Nat} {v1 v2 v3 v4 : Value} : Z m ((pc, .invokespecial i, len, 0, b, 3) :: code) L (v4 :: v3 :: v2 :: v1 :: .ref x :: st) h P ↔ (st.length ≤ 8 ∧ Ev M_X0_init [.ref x, v1, v2, v3, v4] h (fun r h' => Z m code L (r.toList ++ st) h' P)) := by
  rw [Z_call (m' := M_X0_init) rfl rfl]
  exact ⟨fun q => ⟨q.1.2.1, q.2⟩, fun q => ⟨⟨Nat.le_add_left _ _, q.1, rfl⟩, q.2⟩⟩
theorem E_X0_init {v0 v1 v2 v3 v4 : Value} : Ev M_X0_init [v0, v1, v2, v3, v4] h P ↔ Z M_X0_init k_X0_init_0 [some v0, some v1, some v2, some v3, some v4] [] h P := Iff.rfl
theorem R_X0_init : mR M_X0_init = none := rfl
theorem C_X1_init {x : Nat} {v1 : Value} : Z m ((pc, .invokespecial i, len, 1, b, 1) :: code) L (v1 :: .ref x :: st) h P ↔ (st.length ≤ 8 ∧ Ev M_X1_init [.ref x, v1] h (fun r h' => Z m code L (r.toList ++ st) h' P)) := by
  rw [Z_call (m' := M_X1_init) rfl rfl]
  exact ⟨fun q => ⟨q.1.2.1, q.2⟩, fun q => ⟨⟨Nat.le_add_left _ _, q.1, rfl⟩, q.2⟩⟩
theorem C_X1_init_n {x : Nat} {v1 : Value} : Z m ((pc, .invokespecial i, len, 1, b, 3) :: code) L (v1 :: .ref x :: st) h P ↔ (st.length ≤ 8 ∧ Ev M_X1_init [.ref x, v1] h (fun r h' => Z m code L (r.toList ++ st) h' P)) := by
  rw [Z_call (m' := M_X1_init) rfl rfl]
  exact ⟨fun q => ⟨q.1.2.1, q.2⟩, fun q => ⟨⟨Nat.le_add_left _ _, q.1, rfl⟩, q.2⟩⟩
theorem E_X1_init {v0 v1 : Value} : Ev M_X1_init [v0, v1] h P ↔ Z M_X1_init k_X1_init_0 [some v0, some v1] [] h P := Iff.rfl
theorem R_X1_init : mR M_X1_init = none := rfl
theorem C_X1_covers {x : Nat} {v1 : Value} : Z m ((pc, .invokevirtual i, len, 2, b, 0) :: code) L (v1 :: .ref x :: st) h P ↔ ((st.length ≤ 8 ∧ kd h x = 2) ∧ Ev M_X1_covers [.ref x, v1] h (fun r h' => Z m code L (r.toList ++ st) h' P)) := by
  rw [Z_call (m' := M_X1_covers) rfl rfl]
  exact ⟨fun q => ⟨⟨q.1.2.1, Nat.eq_of_beq_eq_true q.1.2.2⟩, q.2⟩, fun q => ⟨⟨Nat.le_add_left _ _, q.1.1, beq_of2 q.1.2⟩, q.2⟩⟩
theorem E_X1_covers {v0 v1 : Value} : Ev M_X1_covers [v0, v1] h P ↔ Z M_X1_covers k_X1_covers_0 [some v0, some v1] [] h P := Iff.rfl
theorem R_X1_covers : mR M_X1_covers = (some .boolean) := rfl
theorem C_X1_raiseTo {x : Nat} {v1 : Value} : Z m ((pc, .invokevirtual i, len, 3, b, 0) :: code) L (v1 :: .ref x :: st) h P ↔ ((st.length ≤ 8 ∧ kd h x = 2) ∧ Ev M_X1_raiseTo [.ref x, v1] h (fun r h' => Z m code L (r.toList ++ st) h' P)) := by
  rw [Z_call (m' := M_X1_raiseTo) rfl rfl]
  exact ⟨fun q => ⟨⟨q.1.2.1, Nat.eq_of_beq_eq_true q.1.2.2⟩, q.2⟩, fun q => ⟨⟨Nat.le_add_left _ _, q.1.1, beq_of2 q.1.2⟩, q.2⟩⟩
theorem E_X1_raiseTo {v0 v1 : Value} : Ev M_X1_raiseTo [v0, v1] h P ↔ Z M_X1_raiseTo k_X1_raiseTo_0 [some v0, some v1, none] [] h P := Iff.rfl
theorem R_X1_raiseTo : mR M_X1_raiseTo = none := rfl
theorem C_X2_init {x : Nat} {v1 : Value} : Z m ((pc, .invokespecial i, len, 4, b, 1) :: code) L (v1 :: .ref x :: st) h P ↔ (st.length ≤ 8 ∧ Ev M_X2_init [.ref x, v1] h (fun r h' => Z m code L (r.toList ++ st) h' P)) := by
  rw [Z_call (m' := M_X2_init) rfl rfl]
  exact ⟨fun q => ⟨q.1.2.1, q.2⟩, fun q => ⟨⟨Nat.le_add_left _ _, q.1, rfl⟩, q.2⟩⟩
theorem C_X2_init_n {x : Nat} {v1 : Value} : Z m ((pc, .invokespecial i, len, 4, b, 3) :: code) L (v1 :: .ref x :: st) h P ↔ (st.length ≤ 8 ∧ Ev M_X2_init [.ref x, v1] h (fun r h' => Z m code L (r.toList ++ st) h' P)) := by
  rw [Z_call (m' := M_X2_init) rfl rfl]
  exact ⟨fun q => ⟨q.1.2.1, q.2⟩, fun q => ⟨⟨Nat.le_add_left _ _, q.1, rfl⟩, q.2⟩⟩
theorem E_X2_init {v0 v1 : Value} : Ev M_X2_init [v0, v1] h P ↔ Z M_X2_init k_X2_init_0 [some v0, some v1] [] h P := Iff.rfl
theorem R_X2_init : mR M_X2_init = none := rfl
theorem C_X3_init {x : Nat} {v1 : Value} : Z m ((pc, .invokespecial i, len, 5, b, 1) :: code) L (v1 :: .ref x :: st) h P ↔ (st.length ≤ 8 ∧ Ev M_X3_init [.ref x, v1] h (fun r h' => Z m code L (r.toList ++ st) h' P)) := by
  rw [Z_call (m' := M_X3_init) rfl rfl]
  exact ⟨fun q => ⟨q.1.2.1, q.2⟩, fun q => ⟨⟨Nat.le_add_left _ _, q.1, rfl⟩, q.2⟩⟩
theorem C_X3_init_n {x : Nat} {v1 : Value} : Z m ((pc, .invokespecial i, len, 5, b, 3) :: code) L (v1 :: .ref x :: st) h P ↔ (st.length ≤ 8 ∧ Ev M_X3_init [.ref x, v1] h (fun r h' => Z m code L (r.toList ++ st) h' P)) := by
  rw [Z_call (m' := M_X3_init) rfl rfl]
  exact ⟨fun q => ⟨q.1.2.1, q.2⟩, fun q => ⟨⟨Nat.le_add_left _ _, q.1, rfl⟩, q.2⟩⟩
theorem E_X3_init {v0 v1 : Value} : Ev M_X3_init [v0, v1] h P ↔ Z M_X3_init k_X3_init_0 [some v0, some v1] [] h P := Iff.rfl
theorem R_X3_init : mR M_X3_init = none := rfl
theorem C_X3_init_ {x : Nat} {v1 v2 v3 : Value} : Z m ((pc, .invokespecial i, len, 6, b, 1) :: code) L (v3 :: v2 :: v1 :: .ref x :: st) h P ↔ (st.length ≤ 8 ∧ Ev M_X3_init_ [.ref x, v1, v2, v3] h (fun r h' => Z m code L (r.toList ++ st) h' P)) := by
  rw [Z_call (m' := M_X3_init_) rfl rfl]
  exact ⟨fun q => ⟨q.1.2.1, q.2⟩, fun q => ⟨⟨Nat.le_add_left _ _, q.1, rfl⟩, q.2⟩⟩
theorem C_X3_init__n {x : Nat} {v1 v2 v3 : Value} : Z m ((pc, .invokespecial i, len, 6, b, 3) :: code) L (v3 :: v2 :: v1 :: .ref x :: st) h P ↔ (st.length ≤ 8 ∧ Ev M_X3_init_ [.ref x, v1, v2, v3] h (fun r h' => Z m code L (r.toList ++ st) h' P)) := by
  rw [Z_call (m' := M_X3_init_) rfl rfl]
  exact ⟨fun q => ⟨q.1.2.1, q.2⟩, fun q => ⟨⟨Nat.le_add_left _ _, q.1, rfl⟩, q.2⟩⟩
theorem E_X3_init_ {v0 v1 v2 v3 : Value} : Ev M_X3_init_ [v0, v1, v2, v3] h P ↔ Z M_X3_init_ k_X3_init__0 [some v0, some v1, some v2, some v3] [] h P := Iff.rfl
theorem R_X3_init_ : mR M_X3_init_ = none := rfl
theorem C_X4_init {x : Nat} {v1 v2 v3 v4 : Value} : Z m ((pc, .invokespecial i, len, 7, b, 1) :: code) L (v4 :: v3 :: v2 :: v1 :: .ref x :: st) h P ↔ (st.length ≤ 8 ∧ Ev M_X4_init [.ref x, v1, v2, v3, v4] h (fun r h' => Z m code L (r.toList ++ st) h' P)) := by
  rw [Z_call (m' := M_X4_init) rfl rfl]
  exact ⟨fun q => ⟨q.1.2.1, q.2⟩, fun q => ⟨⟨Nat.le_add_left _ _, q.1, rfl⟩, q.2⟩⟩
theorem C_X4_init_n {x : Nat} {v1 v2 v3 v4 : Value} : Z m ((pc, .invokespecial i, len, 7, b, 3) :: code) L (v4 :: v3 :: v2 :: v1 :: .ref x :: st) h P ↔ (st.length ≤ 8 ∧ Ev M_X4_init [.ref x, v1, v2, v3, v4] h (fun r h' => Z m code L (r.toList ++ st) h' P)) := by
  rw [Z_call (m' := M_X4_init) rfl rfl]
  exact ⟨fun q => ⟨q.1.2.1, q.2⟩, fun q => ⟨⟨Nat.le_add_left _ _, q.1, rfl⟩, q.2⟩⟩
theorem E_X4_init {v0 v1 v2 v3 v4 : Value} : Ev M_X4_init [v0, v1, v2, v3, v4] h P ↔ Z M_X4_init k_X4_init_0 [some v0, some v1, some v2, some v3, some v4] [] h P := Iff.rfl
theorem R_X4_init : mR M_X4_init = none := rfl
theorem C_X4_hasGreaterMarkThan {x : Nat} {v1 : Value} : Z m ((pc, .invokevirtual i, len, 8, b, 0) :: code) L (v1 :: .ref x :: st) h P ↔ ((st.length ≤ 8 ∧ kd h x = 5) ∧ Ev M_X4_hasGreaterMarkThan [.ref x, v1] h (fun r h' => Z m code L (r.toList ++ st) h' P)) := by
  rw [Z_call (m' := M_X4_hasGreaterMarkThan) rfl rfl]
  exact ⟨fun q => ⟨⟨q.1.2.1, Nat.eq_of_beq_eq_true q.1.2.2⟩, q.2⟩, fun q => ⟨⟨Nat.le_add_left _ _, q.1.1, beq_of2 q.1.2⟩, q.2⟩⟩
theorem E_X4_hasGreaterMarkThan {v0 v1 : Value} : Ev M_X4_hasGreaterMarkThan [v0, v1] h P ↔ Z M_X4_hasGreaterMarkThan k_X4_hasGreaterMarkThan_0 [some v0, some v1] [] h P := Iff.rfl
theorem R_X4_hasGreaterMarkThan : mR M_X4_hasGreaterMarkThan = (some .boolean) := rfl
theorem C_X4_isOfSameElementAs {x : Nat} {v1 : Value} : Z m ((pc, .invokevirtual i, len, 9, b, 0) :: code) L (v1 :: .ref x :: st) h P ↔ ((st.length ≤ 8 ∧ kd h x = 5) ∧ Ev M_X4_isOfSameElementAs [.ref x, v1] h (fun r h' => Z m code L (r.toList ++ st) h' P)) := by
  rw [Z_call (m' := M_X4_isOfSameElementAs) rfl rfl]
  exact ⟨fun q => ⟨⟨q.1.2.1, Nat.eq_of_beq_eq_true q.1.2.2⟩, q.2⟩, fun q => ⟨⟨Nat.le_add_left _ _, q.1.1, beq_of2 q.1.2⟩, q.2⟩⟩
theorem E_X4_isOfSameElementAs {v0 v1 : Value} : Ev M_X4_isOfSameElementAs [v0, v1] h P ↔ Z M_X4_isOfSameElementAs k_X4_isOfSameElementAs_0 [some v0, some v1] [] h P := Iff.rfl
theorem R_X4_isOfSameElementAs : mR M_X4_isOfSameElementAs = (some .boolean) := rfl
theorem C_X5_init {x : Nat} {v1 : Value} : Z m ((pc, .invokespecial i, len, 10, b, 1) :: code) L (v1 :: .ref x :: st) h P ↔ (st.length ≤ 8 ∧ Ev M_X5_init [.ref x, v1] h (fun r h' => Z m code L (r.toList ++ st) h' P)) := by
  rw [Z_call (m' := M_X5_init) rfl rfl]
  exact ⟨fun q => ⟨q.1.2.1, q.2⟩, fun q => ⟨⟨Nat.le_add_left _ _, q.1, rfl⟩, q.2⟩⟩
theorem C_X5_init_n {x : Nat} {v1 : Value} : Z m ((pc, .invokespecial i, len, 10, b, 3) :: code) L (v1 :: .ref x :: st) h P ↔ (st.length ≤ 8 ∧ Ev M_X5_init [.ref x, v1] h (fun r h' => Z m code L (r.toList ++ st) h' P)) := by
  rw [Z_call (m' := M_X5_init) rfl rfl]
  exact ⟨fun q => ⟨q.1.2.1, q.2⟩, fun q => ⟨⟨Nat.le_add_left _ _, q.1, rfl⟩, q.2⟩⟩
theorem E_X5_init {v0 v1 : Value} : Ev M_X5_init [v0, v1] h P ↔ Z M_X5_init k_X5_init_0 [some v0, some v1, none] [] h P := Iff.rfl
theorem R_X5_init : mR M_X5_init = none := rfl
theorem C_X5_hasMostOperations {x : Nat} : Z m ((pc, .invokevirtual i, len, 11, b, 0) :: code) L (.ref x :: st) h P ↔ ((st.length ≤ 8 ∧ kd h x = 6) ∧ Ev M_X5_hasMostOperations [.ref x] h (fun r h' => Z m code L (r.toList ++ st) h' P)) := by
  rw [Z_call (m' := M_X5_hasMostOperations) rfl rfl]
  exact ⟨fun q => ⟨⟨q.1.2.1, Nat.eq_of_beq_eq_true q.1.2.2⟩, q.2⟩, fun q => ⟨⟨Nat.le_add_left _ _, q.1.1, beq_of2 q.1.2⟩, q.2⟩⟩
theorem E_X5_hasMostOperations {v0 : Value} : Ev M_X5_hasMostOperations [v0] h P ↔ Z M_X5_hasMostOperations k_X5_hasMostOperations_0 [some v0] [] h P := Iff.rfl
theorem R_X5_hasMostOperations : mR M_X5_hasMostOperations = (some .boolean) := rfl
theorem C_X5_ownClock {x : Nat} : Z m ((pc, .invokevirtual i, len, 12, b, 0) :: code) L (.ref x :: st) h P ↔ ((st.length ≤ 8 ∧ kd h x = 6) ∧ Ev M_X5_ownClock [.ref x] h (fun r h' => Z m code L (r.toList ++ st) h' P)) := by
  rw [Z_call (m' := M_X5_ownClock) rfl rfl]
  exact ⟨fun q => ⟨⟨q.1.2.1, Nat.eq_of_beq_eq_true q.1.2.2⟩, q.2⟩, fun q => ⟨⟨Nat.le_add_left _ _, q.1.1, beq_of2 q.1.2⟩, q.2⟩⟩
theorem E_X5_ownClock {v0 : Value} : Ev M_X5_ownClock [v0] h P ↔ Z M_X5_ownClock k_X5_ownClock_0 [some v0] [] h P := Iff.rfl
theorem R_X5_ownClock : mR M_X5_ownClock = (some (.object "ReplicaStore$Clock")) := rfl
theorem C_X5_elementBits {x : Nat} {v1 : Value} : Z m ((pc, .invokevirtual i, len, 13, b, 0) :: code) L (v1 :: .ref x :: st) h P ↔ ((st.length ≤ 8 ∧ kd h x = 6) ∧ Ev M_X5_elementBits [.ref x, v1] h (fun r h' => Z m code L (r.toList ++ st) h' P)) := by
  rw [Z_call (m' := M_X5_elementBits) rfl rfl]
  exact ⟨fun q => ⟨⟨q.1.2.1, Nat.eq_of_beq_eq_true q.1.2.2⟩, q.2⟩, fun q => ⟨⟨Nat.le_add_left _ _, q.1.1, beq_of2 q.1.2⟩, q.2⟩⟩
theorem E_X5_elementBits {v0 v1 : Value} : Ev M_X5_elementBits [v0, v1] h P ↔ Z M_X5_elementBits k_X5_elementBits_0 [some v0, some v1, none, none, none] [] h P := Iff.rfl
theorem R_X5_elementBits : mR M_X5_elementBits = (some .int) := rfl
theorem C_X5_begin {x : Nat} {v1 : Value} : Z m ((pc, .invokevirtual i, len, 14, b, 0) :: code) L (v1 :: .ref x :: st) h P ↔ ((st.length ≤ 8 ∧ kd h x = 6) ∧ Ev M_X5_begin [.ref x, v1] h (fun r h' => Z m code L (r.toList ++ st) h' P)) := by
  rw [Z_call (m' := M_X5_begin) rfl rfl]
  exact ⟨fun q => ⟨⟨q.1.2.1, Nat.eq_of_beq_eq_true q.1.2.2⟩, q.2⟩, fun q => ⟨⟨Nat.le_add_left _ _, q.1.1, beq_of2 q.1.2⟩, q.2⟩⟩
theorem E_X5_begin {v0 v1 : Value} : Ev M_X5_begin [v0, v1] h P ↔ Z M_X5_begin k_X5_begin_0 [some v0, some v1, none, none] [] h P := Iff.rfl
theorem R_X5_begin : mR M_X5_begin = (some (.object "ReplicaStore$Operation")) := rfl
theorem C_X5_receive {x : Nat} {v1 : Value} : Z m ((pc, .invokevirtual i, len, 15, b, 0) :: code) L (v1 :: .ref x :: st) h P ↔ ((st.length ≤ 8 ∧ kd h x = 6) ∧ Ev M_X5_receive [.ref x, v1] h (fun r h' => Z m code L (r.toList ++ st) h' P)) := by
  rw [Z_call (m' := M_X5_receive) rfl rfl]
  exact ⟨fun q => ⟨⟨q.1.2.1, Nat.eq_of_beq_eq_true q.1.2.2⟩, q.2⟩, fun q => ⟨⟨Nat.le_add_left _ _, q.1.1, beq_of2 q.1.2⟩, q.2⟩⟩
theorem E_X5_receive {v0 v1 : Value} : Ev M_X5_receive [v0, v1] h P ↔ Z M_X5_receive k_X5_receive_0 [some v0, some v1, none] [] h P := Iff.rfl
theorem R_X5_receive : mR M_X5_receive = (some .int) := rfl
theorem C_X5_isWaiting {x : Nat} {v1 : Value} : Z m ((pc, .invokevirtual i, len, 16, b, 0) :: code) L (v1 :: .ref x :: st) h P ↔ ((st.length ≤ 8 ∧ kd h x = 6) ∧ Ev M_X5_isWaiting [.ref x, v1] h (fun r h' => Z m code L (r.toList ++ st) h' P)) := by
  rw [Z_call (m' := M_X5_isWaiting) rfl rfl]
  exact ⟨fun q => ⟨⟨q.1.2.1, Nat.eq_of_beq_eq_true q.1.2.2⟩, q.2⟩, fun q => ⟨⟨Nat.le_add_left _ _, q.1.1, beq_of2 q.1.2⟩, q.2⟩⟩
theorem E_X5_isWaiting {v0 v1 : Value} : Ev M_X5_isWaiting [v0, v1] h P ↔ Z M_X5_isWaiting k_X5_isWaiting_0 [some v0, some v1, none] [] h P := Iff.rfl
theorem R_X5_isWaiting : mR M_X5_isWaiting = (some .boolean) := rfl
theorem C_X5_finishWaiting {x : Nat} : Z m ((pc, .invokevirtual i, len, 17, b, 0) :: code) L (.ref x :: st) h P ↔ ((st.length ≤ 8 ∧ kd h x = 6) ∧ Ev M_X5_finishWaiting [.ref x] h (fun r h' => Z m code L (r.toList ++ st) h' P)) := by
  rw [Z_call (m' := M_X5_finishWaiting) rfl rfl]
  exact ⟨fun q => ⟨⟨q.1.2.1, Nat.eq_of_beq_eq_true q.1.2.2⟩, q.2⟩, fun q => ⟨⟨Nat.le_add_left _ _, q.1.1, beq_of2 q.1.2⟩, q.2⟩⟩
theorem E_X5_finishWaiting {v0 : Value} : Ev M_X5_finishWaiting [v0] h P ↔ Z M_X5_finishWaiting k_X5_finishWaiting_0 [some v0, none, none, none] [] h P := Iff.rfl
theorem R_X5_finishWaiting : mR M_X5_finishWaiting = (some .int) := rfl
theorem C_X5_firstReady {x : Nat} : Z m ((pc, .invokevirtual i, len, 18, b, 0) :: code) L (.ref x :: st) h P ↔ ((st.length ≤ 8 ∧ kd h x = 6) ∧ Ev M_X5_firstReady [.ref x] h (fun r h' => Z m code L (r.toList ++ st) h' P)) := by
  rw [Z_call (m' := M_X5_firstReady) rfl rfl]
  exact ⟨fun q => ⟨⟨q.1.2.1, Nat.eq_of_beq_eq_true q.1.2.2⟩, q.2⟩, fun q => ⟨⟨Nat.le_add_left _ _, q.1.1, beq_of2 q.1.2⟩, q.2⟩⟩
theorem E_X5_firstReady {v0 : Value} : Ev M_X5_firstReady [v0] h P ↔ Z M_X5_firstReady k_X5_firstReady_0 [some v0, none] [] h P := Iff.rfl
theorem R_X5_firstReady : mR M_X5_firstReady = (some .int) := rfl
theorem C_X5_isReady {x : Nat} {v1 : Value} : Z m ((pc, .invokevirtual i, len, 19, b, 0) :: code) L (v1 :: .ref x :: st) h P ↔ ((st.length ≤ 8 ∧ kd h x = 6) ∧ Ev M_X5_isReady [.ref x, v1] h (fun r h' => Z m code L (r.toList ++ st) h' P)) := by
  rw [Z_call (m' := M_X5_isReady) rfl rfl]
  exact ⟨fun q => ⟨⟨q.1.2.1, Nat.eq_of_beq_eq_true q.1.2.2⟩, q.2⟩, fun q => ⟨⟨Nat.le_add_left _ _, q.1.1, beq_of2 q.1.2⟩, q.2⟩⟩
theorem E_X5_isReady {v0 v1 : Value} : Ev M_X5_isReady [v0, v1] h P ↔ Z M_X5_isReady k_X5_isReady_0 [some v0, some v1, none, none, none] [] h P := Iff.rfl
theorem R_X5_isReady : mR M_X5_isReady = (some .boolean) := rfl
theorem C_X5_finish {x : Nat} {v1 : Value} : Z m ((pc, .invokevirtual i, len, 20, b, 0) :: code) L (v1 :: .ref x :: st) h P ↔ ((st.length ≤ 8 ∧ kd h x = 6) ∧ Ev M_X5_finish [.ref x, v1] h (fun r h' => Z m code L (r.toList ++ st) h' P)) := by
  rw [Z_call (m' := M_X5_finish) rfl rfl]
  exact ⟨fun q => ⟨⟨q.1.2.1, Nat.eq_of_beq_eq_true q.1.2.2⟩, q.2⟩, fun q => ⟨⟨Nat.le_add_left _ _, q.1.1, beq_of2 q.1.2⟩, q.2⟩⟩
theorem E_X5_finish {v0 v1 : Value} : Ev M_X5_finish [v0, v1] h P ↔ Z M_X5_finish k_X5_finish_0 [some v0, some v1] [] h P := Iff.rfl
theorem R_X5_finish : mR M_X5_finish = none := rfl
theorem C_X5_apply {x : Nat} {v1 : Value} : Z m ((pc, .invokevirtual i, len, 21, b, 0) :: code) L (v1 :: .ref x :: st) h P ↔ ((st.length ≤ 8 ∧ kd h x = 6) ∧ Ev M_X5_apply [.ref x, v1] h (fun r h' => Z m code L (r.toList ++ st) h' P)) := by
  rw [Z_call (m' := M_X5_apply) rfl rfl]
  exact ⟨fun q => ⟨⟨q.1.2.1, Nat.eq_of_beq_eq_true q.1.2.2⟩, q.2⟩, fun q => ⟨⟨Nat.le_add_left _ _, q.1.1, beq_of2 q.1.2⟩, q.2⟩⟩
theorem E_X5_apply {v0 v1 : Value} : Ev M_X5_apply [v0, v1] h P ↔ Z M_X5_apply k_X5_apply_0 [some v0, some v1, none] [] h P := Iff.rfl
theorem R_X5_apply : mR M_X5_apply = none := rfl
theorem C_X5_dropPutsBefore {x : Nat} {v1 : Value} : Z m ((pc, .invokevirtual i, len, 22, b, 0) :: code) L (v1 :: .ref x :: st) h P ↔ ((st.length ≤ 8 ∧ kd h x = 6) ∧ Ev M_X5_dropPutsBefore [.ref x, v1] h (fun r h' => Z m code L (r.toList ++ st) h' P)) := by
  rw [Z_call (m' := M_X5_dropPutsBefore) rfl rfl]
  exact ⟨fun q => ⟨⟨q.1.2.1, Nat.eq_of_beq_eq_true q.1.2.2⟩, q.2⟩, fun q => ⟨⟨Nat.le_add_left _ _, q.1.1, beq_of2 q.1.2⟩, q.2⟩⟩
theorem E_X5_dropPutsBefore {v0 v1 : Value} : Ev M_X5_dropPutsBefore [v0, v1] h P ↔ Z M_X5_dropPutsBefore k_X5_dropPutsBefore_0 [some v0, some v1, none, none] [] h P := Iff.rfl
theorem R_X5_dropPutsBefore : mR M_X5_dropPutsBefore = none := rfl
theorem C_X5_keepGreaterMark {x : Nat} {v1 : Value} : Z m ((pc, .invokevirtual i, len, 23, b, 0) :: code) L (v1 :: .ref x :: st) h P ↔ ((st.length ≤ 8 ∧ kd h x = 6) ∧ Ev M_X5_keepGreaterMark [.ref x, v1] h (fun r h' => Z m code L (r.toList ++ st) h' P)) := by
  rw [Z_call (m' := M_X5_keepGreaterMark) rfl rfl]
  exact ⟨fun q => ⟨⟨q.1.2.1, Nat.eq_of_beq_eq_true q.1.2.2⟩, q.2⟩, fun q => ⟨⟨Nat.le_add_left _ _, q.1.1, beq_of2 q.1.2⟩, q.2⟩⟩
theorem E_X5_keepGreaterMark {v0 v1 : Value} : Ev M_X5_keepGreaterMark [v0, v1] h P ↔ Z M_X5_keepGreaterMark k_X5_keepGreaterMark_0 [some v0, some v1, none] [] h P := Iff.rfl
theorem R_X5_keepGreaterMark : mR M_X5_keepGreaterMark = none := rfl
theorem C_X5_isDoneEverywhere {x : Nat} {v1 : Value} : Z m ((pc, .invokevirtual i, len, 24, b, 0) :: code) L (v1 :: .ref x :: st) h P ↔ ((st.length ≤ 8 ∧ kd h x = 6) ∧ Ev M_X5_isDoneEverywhere [.ref x, v1] h (fun r h' => Z m code L (r.toList ++ st) h' P)) := by
  rw [Z_call (m' := M_X5_isDoneEverywhere) rfl rfl]
  exact ⟨fun q => ⟨⟨q.1.2.1, Nat.eq_of_beq_eq_true q.1.2.2⟩, q.2⟩, fun q => ⟨⟨Nat.le_add_left _ _, q.1.1, beq_of2 q.1.2⟩, q.2⟩⟩
theorem E_X5_isDoneEverywhere {v0 v1 : Value} : Ev M_X5_isDoneEverywhere [v0, v1] h P ↔ Z M_X5_isDoneEverywhere k_X5_isDoneEverywhere_0 [some v0, some v1, none] [] h P := Iff.rfl
theorem R_X5_isDoneEverywhere : mR M_X5_isDoneEverywhere = (some .boolean) := rfl
theorem C_X5_shortenLog {x : Nat} : Z m ((pc, .invokevirtual i, len, 25, b, 0) :: code) L (.ref x :: st) h P ↔ ((st.length ≤ 8 ∧ kd h x = 6) ∧ Ev M_X5_shortenLog [.ref x] h (fun r h' => Z m code L (r.toList ++ st) h' P)) := by
  rw [Z_call (m' := M_X5_shortenLog) rfl rfl]
  exact ⟨fun q => ⟨⟨q.1.2.1, Nat.eq_of_beq_eq_true q.1.2.2⟩, q.2⟩, fun q => ⟨⟨Nat.le_add_left _ _, q.1.1, beq_of2 q.1.2⟩, q.2⟩⟩
theorem E_X5_shortenLog {v0 : Value} : Ev M_X5_shortenLog [v0] h P ↔ Z M_X5_shortenLog k_X5_shortenLog_0 [some v0, none] [] h P := Iff.rfl
theorem R_X5_shortenLog : mR M_X5_shortenLog = none := rfl
theorem C_X6_init {x : Nat} : Z m ((pc, .invokespecial i, len, 26, b, 1) :: code) L (.ref x :: st) h P ↔ (st.length ≤ 8 ∧ Ev M_X6_init [.ref x] h (fun r h' => Z m code L (r.toList ++ st) h' P)) := by
  rw [Z_call (m' := M_X6_init) rfl rfl]
  exact ⟨fun q => ⟨q.1.2.1, q.2⟩, fun q => ⟨⟨Nat.le_add_left _ _, q.1, rfl⟩, q.2⟩⟩
theorem C_X6_init_n {x : Nat} : Z m ((pc, .invokespecial i, len, 26, b, 3) :: code) L (.ref x :: st) h P ↔ (st.length ≤ 8 ∧ Ev M_X6_init [.ref x] h (fun r h' => Z m code L (r.toList ++ st) h' P)) := by
  rw [Z_call (m' := M_X6_init) rfl rfl]
  exact ⟨fun q => ⟨q.1.2.1, q.2⟩, fun q => ⟨⟨Nat.le_add_left _ _, q.1, rfl⟩, q.2⟩⟩
theorem E_X6_init {v0 : Value} : Ev M_X6_init [v0] h P ↔ Z M_X6_init k_X6_init_0 [some v0] [] h P := Iff.rfl
theorem R_X6_init : mR M_X6_init = none := rfl
theorem C_X6_lettersEver {x : Nat} : Z m ((pc, .invokevirtual i, len, 27, b, 0) :: code) L (.ref x :: st) h P ↔ ((st.length ≤ 8 ∧ kd h x = 7) ∧ Ev M_X6_lettersEver [.ref x] h (fun r h' => Z m code L (r.toList ++ st) h' P)) := by
  rw [Z_call (m' := M_X6_lettersEver) rfl rfl]
  exact ⟨fun q => ⟨⟨q.1.2.1, Nat.eq_of_beq_eq_true q.1.2.2⟩, q.2⟩, fun q => ⟨⟨Nat.le_add_left _ _, q.1.1, beq_of2 q.1.2⟩, q.2⟩⟩
theorem E_X6_lettersEver {v0 : Value} : Ev M_X6_lettersEver [v0] h P ↔ Z M_X6_lettersEver k_X6_lettersEver_0 [some v0, none, none] [] h P := Iff.rfl
theorem R_X6_lettersEver : mR M_X6_lettersEver = (some .int) := rfl
theorem C_X6_lettersThere {x : Nat} : Z m ((pc, .invokevirtual i, len, 28, b, 0) :: code) L (.ref x :: st) h P ↔ ((st.length ≤ 8 ∧ kd h x = 7) ∧ Ev M_X6_lettersThere [.ref x] h (fun r h' => Z m code L (r.toList ++ st) h' P)) := by
  rw [Z_call (m' := M_X6_lettersThere) rfl rfl]
  exact ⟨fun q => ⟨⟨q.1.2.1, Nat.eq_of_beq_eq_true q.1.2.2⟩, q.2⟩, fun q => ⟨⟨Nat.le_add_left _ _, q.1.1, beq_of2 q.1.2⟩, q.2⟩⟩
theorem E_X6_lettersThere {v0 : Value} : Ev M_X6_lettersThere [v0] h P ↔ Z M_X6_lettersThere k_X6_lettersThere_0 [some v0, none, none] [] h P := Iff.rfl
theorem R_X6_lettersThere : mR M_X6_lettersThere = (some .int) := rfl
theorem C_X6_letterAt {x : Nat} {v1 : Value} : Z m ((pc, .invokevirtual i, len, 29, b, 0) :: code) L (v1 :: .ref x :: st) h P ↔ ((st.length ≤ 8 ∧ kd h x = 7) ∧ Ev M_X6_letterAt [.ref x, v1] h (fun r h' => Z m code L (r.toList ++ st) h' P)) := by
  rw [Z_call (m' := M_X6_letterAt) rfl rfl]
  exact ⟨fun q => ⟨⟨q.1.2.1, Nat.eq_of_beq_eq_true q.1.2.2⟩, q.2⟩, fun q => ⟨⟨Nat.le_add_left _ _, q.1.1, beq_of2 q.1.2⟩, q.2⟩⟩
theorem E_X6_letterAt {v0 v1 : Value} : Ev M_X6_letterAt [v0, v1] h P ↔ Z M_X6_letterAt k_X6_letterAt_0 [some v0, some v1, none, none] [] h P := Iff.rfl
theorem R_X6_letterAt : mR M_X6_letterAt = (some (.object "ReplicaStore$Letter")) := rfl
theorem C_X6_bringIn {x : Nat} {v1 : Value} : Z m ((pc, .invokevirtual i, len, 30, b, 0) :: code) L (v1 :: .ref x :: st) h P ↔ ((st.length ≤ 8 ∧ kd h x = 7) ∧ Ev M_X6_bringIn [.ref x, v1] h (fun r h' => Z m code L (r.toList ++ st) h' P)) := by
  rw [Z_call (m' := M_X6_bringIn) rfl rfl]
  exact ⟨fun q => ⟨⟨q.1.2.1, Nat.eq_of_beq_eq_true q.1.2.2⟩, q.2⟩, fun q => ⟨⟨Nat.le_add_left _ _, q.1.1, beq_of2 q.1.2⟩, q.2⟩⟩
theorem E_X6_bringIn {v0 v1 : Value} : Ev M_X6_bringIn [v0, v1] h P ↔ Z M_X6_bringIn k_X6_bringIn_0 [some v0, some v1, none, none] [] h P := Iff.rfl
theorem R_X6_bringIn : mR M_X6_bringIn = none := rfl
theorem C_X6_bringOut {x : Nat} {v1 : Value} : Z m ((pc, .invokevirtual i, len, 31, b, 0) :: code) L (v1 :: .ref x :: st) h P ↔ ((st.length ≤ 8 ∧ kd h x = 7) ∧ Ev M_X6_bringOut [.ref x, v1] h (fun r h' => Z m code L (r.toList ++ st) h' P)) := by
  rw [Z_call (m' := M_X6_bringOut) rfl rfl]
  exact ⟨fun q => ⟨⟨q.1.2.1, Nat.eq_of_beq_eq_true q.1.2.2⟩, q.2⟩, fun q => ⟨⟨Nat.le_add_left _ _, q.1.1, beq_of2 q.1.2⟩, q.2⟩⟩
theorem E_X6_bringOut {v0 v1 : Value} : Ev M_X6_bringOut [v0, v1] h P ↔ Z M_X6_bringOut k_X6_bringOut_0 [some v0, some v1, none] [] h P := Iff.rfl
theorem R_X6_bringOut : mR M_X6_bringOut = none := rfl
theorem C_X6_letterOf {x : Nat} {v1 : Value} : Z m ((pc, .invokevirtual i, len, 32, b, 0) :: code) L (v1 :: .ref x :: st) h P ↔ ((st.length ≤ 8 ∧ kd h x = 7) ∧ Ev M_X6_letterOf [.ref x, v1] h (fun r h' => Z m code L (r.toList ++ st) h' P)) := by
  rw [Z_call (m' := M_X6_letterOf) rfl rfl]
  exact ⟨fun q => ⟨⟨q.1.2.1, Nat.eq_of_beq_eq_true q.1.2.2⟩, q.2⟩, fun q => ⟨⟨Nat.le_add_left _ _, q.1.1, beq_of2 q.1.2⟩, q.2⟩⟩
theorem E_X6_letterOf {v0 v1 : Value} : Ev M_X6_letterOf [v0, v1] h P ↔ Z M_X6_letterOf k_X6_letterOf_0 [some v0, some v1, none] [] h P := Iff.rfl
theorem R_X6_letterOf : mR M_X6_letterOf = (some (.object "ReplicaStore$Letter")) := rfl
theorem C_X7_init {x : Nat} : Z m ((pc, .invokespecial i, len, 33, b, 1) :: code) L (.ref x :: st) h P ↔ (st.length ≤ 8 ∧ Ev M_X7_init [.ref x] h (fun r h' => Z m code L (r.toList ++ st) h' P)) := by
  rw [Z_call (m' := M_X7_init) rfl rfl]
  exact ⟨fun q => ⟨q.1.2.1, q.2⟩, fun q => ⟨⟨Nat.le_add_left _ _, q.1, rfl⟩, q.2⟩⟩
theorem C_X7_init_n {x : Nat} : Z m ((pc, .invokespecial i, len, 33, b, 3) :: code) L (.ref x :: st) h P ↔ (st.length ≤ 8 ∧ Ev M_X7_init [.ref x] h (fun r h' => Z m code L (r.toList ++ st) h' P)) := by
  rw [Z_call (m' := M_X7_init) rfl rfl]
  exact ⟨fun q => ⟨q.1.2.1, q.2⟩, fun q => ⟨⟨Nat.le_add_left _ _, q.1, rfl⟩, q.2⟩⟩
theorem E_X7_init {v0 : Value} : Ev M_X7_init [v0] h P ↔ Z M_X7_init k_X7_init_0 [some v0] [] h P := Iff.rfl
theorem R_X7_init : mR M_X7_init = none := rfl
theorem C_X7_isFull {x : Nat} : Z m ((pc, .invokevirtual i, len, 34, b, 0) :: code) L (.ref x :: st) h P ↔ ((st.length ≤ 8 ∧ kd h x = 8) ∧ Ev M_X7_isFull [.ref x] h (fun r h' => Z m code L (r.toList ++ st) h' P)) := by
  rw [Z_call (m' := M_X7_isFull) rfl rfl]
  exact ⟨fun q => ⟨⟨q.1.2.1, Nat.eq_of_beq_eq_true q.1.2.2⟩, q.2⟩, fun q => ⟨⟨Nat.le_add_left _ _, q.1.1, beq_of2 q.1.2⟩, q.2⟩⟩
theorem E_X7_isFull {v0 : Value} : Ev M_X7_isFull [v0] h P ↔ Z M_X7_isFull k_X7_isFull_0 [some v0] [] h P := Iff.rfl
theorem R_X7_isFull : mR M_X7_isFull = (some .boolean) := rfl
theorem C_X7_send {x : Nat} {v1 : Value} : Z m ((pc, .invokevirtual i, len, 35, b, 0) :: code) L (v1 :: .ref x :: st) h P ↔ ((st.length ≤ 8 ∧ kd h x = 8) ∧ Ev M_X7_send [.ref x, v1] h (fun r h' => Z m code L (r.toList ++ st) h' P)) := by
  rw [Z_call (m' := M_X7_send) rfl rfl]
  exact ⟨fun q => ⟨⟨q.1.2.1, Nat.eq_of_beq_eq_true q.1.2.2⟩, q.2⟩, fun q => ⟨⟨Nat.le_add_left _ _, q.1.1, beq_of2 q.1.2⟩, q.2⟩⟩
theorem E_X7_send {v0 v1 : Value} : Ev M_X7_send [v0, v1] h P ↔ Z M_X7_send k_X7_send_0 [some v0, some v1] [] h P := Iff.rfl
theorem R_X7_send : mR M_X7_send = none := rfl
theorem C_X8_init {x : Nat} : Z m ((pc, .invokespecial i, len, 36, b, 1) :: code) L (.ref x :: st) h P ↔ (st.length ≤ 8 ∧ Ev M_X8_init [.ref x] h (fun r h' => Z m code L (r.toList ++ st) h' P)) := by
  rw [Z_call (m' := M_X8_init) rfl rfl]
  exact ⟨fun q => ⟨q.1.2.1, q.2⟩, fun q => ⟨⟨Nat.le_add_left _ _, q.1, rfl⟩, q.2⟩⟩
theorem C_X8_init_n {x : Nat} : Z m ((pc, .invokespecial i, len, 36, b, 3) :: code) L (.ref x :: st) h P ↔ (st.length ≤ 8 ∧ Ev M_X8_init [.ref x] h (fun r h' => Z m code L (r.toList ++ st) h' P)) := by
  rw [Z_call (m' := M_X8_init) rfl rfl]
  exact ⟨fun q => ⟨q.1.2.1, q.2⟩, fun q => ⟨⟨Nat.le_add_left _ _, q.1, rfl⟩, q.2⟩⟩
theorem E_X8_init {v0 : Value} : Ev M_X8_init [v0] h P ↔ Z M_X8_init k_X8_init_0 [some v0, none] [] h P := Iff.rfl
theorem R_X8_init : mR M_X8_init = none := rfl
theorem C_X8_add {x : Nat} {v1 v2 v3 : Value} : Z m ((pc, .invokevirtual i, len, 37, b, 0) :: code) L (v3 :: v2 :: v1 :: .ref x :: st) h P ↔ ((st.length ≤ 8 ∧ kd h x = 9) ∧ Ev M_X8_add [.ref x, v1, v2, v3] h (fun r h' => Z m code L (r.toList ++ st) h' P)) := by
  rw [Z_call (m' := M_X8_add) rfl rfl]
  exact ⟨fun q => ⟨⟨q.1.2.1, Nat.eq_of_beq_eq_true q.1.2.2⟩, q.2⟩, fun q => ⟨⟨Nat.le_add_left _ _, q.1.1, beq_of2 q.1.2⟩, q.2⟩⟩
theorem E_X8_add {v0 v1 v2 v3 : Value} : Ev M_X8_add [v0, v1, v2, v3] h P ↔ Z M_X8_add k_X8_add_0 [some v0, some v1, some v2, some v3] [] h P := Iff.rfl
theorem R_X8_add : mR M_X8_add = (some .int) := rfl
theorem C_X8_put {x : Nat} {v1 v2 v3 : Value} : Z m ((pc, .invokevirtual i, len, 38, b, 0) :: code) L (v3 :: v2 :: v1 :: .ref x :: st) h P ↔ ((st.length ≤ 8 ∧ kd h x = 9) ∧ Ev M_X8_put [.ref x, v1, v2, v3] h (fun r h' => Z m code L (r.toList ++ st) h' P)) := by
  rw [Z_call (m' := M_X8_put) rfl rfl]
  exact ⟨fun q => ⟨⟨q.1.2.1, Nat.eq_of_beq_eq_true q.1.2.2⟩, q.2⟩, fun q => ⟨⟨Nat.le_add_left _ _, q.1.1, beq_of2 q.1.2⟩, q.2⟩⟩
theorem E_X8_put {v0 v1 v2 v3 : Value} : Ev M_X8_put [v0, v1, v2, v3] h P ↔ Z M_X8_put k_X8_put_0 [some v0, some v1, some v2, some v3] [] h P := Iff.rfl
theorem R_X8_put : mR M_X8_put = (some .int) := rfl
theorem C_X8_take {x : Nat} {v1 v2 v3 : Value} : Z m ((pc, .invokevirtual i, len, 39, b, 0) :: code) L (v3 :: v2 :: v1 :: .ref x :: st) h P ↔ ((st.length ≤ 8 ∧ kd h x = 9) ∧ Ev M_X8_take [.ref x, v1, v2, v3] h (fun r h' => Z m code L (r.toList ++ st) h' P)) := by
  rw [Z_call (m' := M_X8_take) rfl rfl]
  exact ⟨fun q => ⟨⟨q.1.2.1, Nat.eq_of_beq_eq_true q.1.2.2⟩, q.2⟩, fun q => ⟨⟨Nat.le_add_left _ _, q.1.1, beq_of2 q.1.2⟩, q.2⟩⟩
theorem E_X8_take {v0 v1 v2 v3 : Value} : Ev M_X8_take [v0, v1, v2, v3] h P ↔ Z M_X8_take k_X8_take_0 [some v0, some v1, some v2, some v3] [] h P := Iff.rfl
theorem R_X8_take : mR M_X8_take = (some .int) := rfl
theorem C_X8_write {x : Nat} {v1 v2 v3 : Value} : Z m ((pc, .invokevirtual i, len, 40, b, 0) :: code) L (v3 :: v2 :: v1 :: .ref x :: st) h P ↔ ((st.length ≤ 8 ∧ kd h x = 9) ∧ Ev M_X8_write [.ref x, v1, v2, v3] h (fun r h' => Z m code L (r.toList ++ st) h' P)) := by
  rw [Z_call (m' := M_X8_write) rfl rfl]
  exact ⟨fun q => ⟨⟨q.1.2.1, Nat.eq_of_beq_eq_true q.1.2.2⟩, q.2⟩, fun q => ⟨⟨Nat.le_add_left _ _, q.1.1, beq_of2 q.1.2⟩, q.2⟩⟩
theorem E_X8_write {v0 v1 v2 v3 : Value} : Ev M_X8_write [v0, v1, v2, v3] h P ↔ Z M_X8_write k_X8_write_0 [some v0, some v1, some v2, some v3] [] h P := Iff.rfl
theorem R_X8_write : mR M_X8_write = (some .int) := rfl
theorem C_X8_insert {x : Nat} {v1 v2 v3 v4 : Value} : Z m ((pc, .invokevirtual i, len, 41, b, 0) :: code) L (v4 :: v3 :: v2 :: v1 :: .ref x :: st) h P ↔ ((st.length ≤ 8 ∧ kd h x = 9) ∧ Ev M_X8_insert [.ref x, v1, v2, v3, v4] h (fun r h' => Z m code L (r.toList ++ st) h' P)) := by
  rw [Z_call (m' := M_X8_insert) rfl rfl]
  exact ⟨fun q => ⟨⟨q.1.2.1, Nat.eq_of_beq_eq_true q.1.2.2⟩, q.2⟩, fun q => ⟨⟨Nat.le_add_left _ _, q.1.1, beq_of2 q.1.2⟩, q.2⟩⟩
theorem E_X8_insert {v0 v1 v2 v3 v4 : Value} : Ev M_X8_insert [v0, v1, v2, v3, v4] h P ↔ Z M_X8_insert k_X8_insert_0 [some v0, some v1, some v2, some v3, some v4, none] [] h P := Iff.rfl
theorem R_X8_insert : mR M_X8_insert = (some .int) := rfl
theorem C_X8_remove {x : Nat} {v1 v2 v3 : Value} : Z m ((pc, .invokevirtual i, len, 42, b, 0) :: code) L (v3 :: v2 :: v1 :: .ref x :: st) h P ↔ ((st.length ≤ 8 ∧ kd h x = 9) ∧ Ev M_X8_remove [.ref x, v1, v2, v3] h (fun r h' => Z m code L (r.toList ++ st) h' P)) := by
  rw [Z_call (m' := M_X8_remove) rfl rfl]
  exact ⟨fun q => ⟨⟨q.1.2.1, Nat.eq_of_beq_eq_true q.1.2.2⟩, q.2⟩, fun q => ⟨⟨Nat.le_add_left _ _, q.1.1, beq_of2 q.1.2⟩, q.2⟩⟩
theorem E_X8_remove {v0 v1 v2 v3 : Value} : Ev M_X8_remove [v0, v1, v2, v3] h P ↔ Z M_X8_remove k_X8_remove_0 [some v0, some v1, some v2, some v3, none] [] h P := Iff.rfl
theorem R_X8_remove : mR M_X8_remove = (some .int) := rfl
theorem C_X8_deliver {x : Nat} {v1 v2 v3 : Value} : Z m ((pc, .invokevirtual i, len, 43, b, 0) :: code) L (v3 :: v2 :: v1 :: .ref x :: st) h P ↔ ((st.length ≤ 8 ∧ kd h x = 9) ∧ Ev M_X8_deliver [.ref x, v1, v2, v3] h (fun r h' => Z m code L (r.toList ++ st) h' P)) := by
  rw [Z_call (m' := M_X8_deliver) rfl rfl]
  exact ⟨fun q => ⟨⟨q.1.2.1, Nat.eq_of_beq_eq_true q.1.2.2⟩, q.2⟩, fun q => ⟨⟨Nat.le_add_left _ _, q.1.1, beq_of2 q.1.2⟩, q.2⟩⟩
theorem E_X8_deliver {v0 v1 v2 v3 : Value} : Ev M_X8_deliver [v0, v1, v2, v3] h P ↔ Z M_X8_deliver k_X8_deliver_0 [some v0, some v1, some v2, some v3, none, none, none] [] h P := Iff.rfl
theorem R_X8_deliver : mR M_X8_deliver = (some .int) := rfl
theorem C_X8_copy {x : Nat} {v1 v2 v3 : Value} : Z m ((pc, .invokevirtual i, len, 44, b, 0) :: code) L (v3 :: v2 :: v1 :: .ref x :: st) h P ↔ ((st.length ≤ 8 ∧ kd h x = 9) ∧ Ev M_X8_copy [.ref x, v1, v2, v3] h (fun r h' => Z m code L (r.toList ++ st) h' P)) := by
  rw [Z_call (m' := M_X8_copy) rfl rfl]
  exact ⟨fun q => ⟨⟨q.1.2.1, Nat.eq_of_beq_eq_true q.1.2.2⟩, q.2⟩, fun q => ⟨⟨Nat.le_add_left _ _, q.1.1, beq_of2 q.1.2⟩, q.2⟩⟩
theorem E_X8_copy {v0 v1 v2 v3 : Value} : Ev M_X8_copy [v0, v1, v2, v3] h P ↔ Z M_X8_copy k_X8_copy_0 [some v0, some v1, some v2, some v3, none] [] h P := Iff.rfl
theorem R_X8_copy : mR M_X8_copy = (some .int) := rfl
theorem C_X8_lose {x : Nat} {v1 v2 v3 : Value} : Z m ((pc, .invokevirtual i, len, 45, b, 0) :: code) L (v3 :: v2 :: v1 :: .ref x :: st) h P ↔ ((st.length ≤ 8 ∧ kd h x = 9) ∧ Ev M_X8_lose [.ref x, v1, v2, v3] h (fun r h' => Z m code L (r.toList ++ st) h' P)) := by
  rw [Z_call (m' := M_X8_lose) rfl rfl]
  exact ⟨fun q => ⟨⟨q.1.2.1, Nat.eq_of_beq_eq_true q.1.2.2⟩, q.2⟩, fun q => ⟨⟨Nat.le_add_left _ _, q.1.1, beq_of2 q.1.2⟩, q.2⟩⟩
theorem E_X8_lose {v0 v1 v2 v3 : Value} : Ev M_X8_lose [v0, v1, v2, v3] h P ↔ Z M_X8_lose k_X8_lose_0 [some v0, some v1, some v2, some v3, none] [] h P := Iff.rfl
theorem R_X8_lose : mR M_X8_lose = (some .int) := rfl
theorem C_X8_ask {x : Nat} {v1 v2 : Value} : Z m ((pc, .invokevirtual i, len, 46, b, 0) :: code) L (v2 :: v1 :: .ref x :: st) h P ↔ ((st.length ≤ 8 ∧ kd h x = 9) ∧ Ev M_X8_ask [.ref x, v1, v2] h (fun r h' => Z m code L (r.toList ++ st) h' P)) := by
  rw [Z_call (m' := M_X8_ask) rfl rfl]
  exact ⟨fun q => ⟨⟨q.1.2.1, Nat.eq_of_beq_eq_true q.1.2.2⟩, q.2⟩, fun q => ⟨⟨Nat.le_add_left _ _, q.1.1, beq_of2 q.1.2⟩, q.2⟩⟩
theorem E_X8_ask {v0 v1 v2 : Value} : Ev M_X8_ask [v0, v1, v2] h P ↔ Z M_X8_ask k_X8_ask_0 [some v0, some v1, some v2] [] h P := Iff.rfl
theorem R_X8_ask : mR M_X8_ask = (some .int) := rfl
theorem C_X8_tell {x : Nat} {v1 v2 : Value} : Z m ((pc, .invokevirtual i, len, 47, b, 0) :: code) L (v2 :: v1 :: .ref x :: st) h P ↔ ((st.length ≤ 8 ∧ kd h x = 9) ∧ Ev M_X8_tell [.ref x, v1, v2] h (fun r h' => Z m code L (r.toList ++ st) h' P)) := by
  rw [Z_call (m' := M_X8_tell) rfl rfl]
  exact ⟨fun q => ⟨⟨q.1.2.1, Nat.eq_of_beq_eq_true q.1.2.2⟩, q.2⟩, fun q => ⟨⟨Nat.le_add_left _ _, q.1.1, beq_of2 q.1.2⟩, q.2⟩⟩
theorem E_X8_tell {v0 v1 v2 : Value} : Ev M_X8_tell [v0, v1, v2] h P ↔ Z M_X8_tell k_X8_tell_0 [some v0, some v1, some v2] [] h P := Iff.rfl
theorem R_X8_tell : mR M_X8_tell = (some .int) := rfl
theorem C_X8_power {x : Nat} {v1 v2 : Value} : Z m ((pc, .invokevirtual i, len, 48, b, 0) :: code) L (v2 :: v1 :: .ref x :: st) h P ↔ ((st.length ≤ 8 ∧ kd h x = 9) ∧ Ev M_X8_power [.ref x, v1, v2] h (fun r h' => Z m code L (r.toList ++ st) h' P)) := by
  rw [Z_call (m' := M_X8_power) rfl rfl]
  exact ⟨fun q => ⟨⟨q.1.2.1, Nat.eq_of_beq_eq_true q.1.2.2⟩, q.2⟩, fun q => ⟨⟨Nat.le_add_left _ _, q.1.1, beq_of2 q.1.2⟩, q.2⟩⟩
theorem E_X8_power {v0 v1 v2 : Value} : Ev M_X8_power [v0, v1, v2] h P ↔ Z M_X8_power k_X8_power_0 [some v0, some v1, some v2, none] [] h P := Iff.rfl
theorem R_X8_power : mR M_X8_power = (some .int) := rfl
theorem C_X8_counter {x : Nat} {v1 v2 : Value} : Z m ((pc, .invokevirtual i, len, 49, b, 0) :: code) L (v2 :: v1 :: .ref x :: st) h P ↔ ((st.length ≤ 8 ∧ kd h x = 9) ∧ Ev M_X8_counter [.ref x, v1, v2] h (fun r h' => Z m code L (r.toList ++ st) h' P)) := by
  rw [Z_call (m' := M_X8_counter) rfl rfl]
  exact ⟨fun q => ⟨⟨q.1.2.1, Nat.eq_of_beq_eq_true q.1.2.2⟩, q.2⟩, fun q => ⟨⟨Nat.le_add_left _ _, q.1.1, beq_of2 q.1.2⟩, q.2⟩⟩
theorem E_X8_counter {v0 v1 v2 : Value} : Ev M_X8_counter [v0, v1, v2] h P ↔ Z M_X8_counter k_X8_counter_0 [some v0, some v1, some v2] [] h P := Iff.rfl
theorem R_X8_counter : mR M_X8_counter = (some .int) := rfl
theorem C_X8_has {x : Nat} {v1 v2 v3 : Value} : Z m ((pc, .invokevirtual i, len, 50, b, 0) :: code) L (v3 :: v2 :: v1 :: .ref x :: st) h P ↔ ((st.length ≤ 8 ∧ kd h x = 9) ∧ Ev M_X8_has [.ref x, v1, v2, v3] h (fun r h' => Z m code L (r.toList ++ st) h' P)) := by
  rw [Z_call (m' := M_X8_has) rfl rfl]
  exact ⟨fun q => ⟨⟨q.1.2.1, Nat.eq_of_beq_eq_true q.1.2.2⟩, q.2⟩, fun q => ⟨⟨Nat.le_add_left _ _, q.1.1, beq_of2 q.1.2⟩, q.2⟩⟩
theorem E_X8_has {v0 v1 v2 v3 : Value} : Ev M_X8_has [v0, v1, v2, v3] h P ↔ Z M_X8_has k_X8_has_0 [some v0, some v1, some v2, some v3] [] h P := Iff.rfl
theorem R_X8_has : mR M_X8_has = (some .int) := rfl
theorem C_X8_size {x : Nat} {v1 v2 : Value} : Z m ((pc, .invokevirtual i, len, 51, b, 0) :: code) L (v2 :: v1 :: .ref x :: st) h P ↔ ((st.length ≤ 8 ∧ kd h x = 9) ∧ Ev M_X8_size [.ref x, v1, v2] h (fun r h' => Z m code L (r.toList ++ st) h' P)) := by
  rw [Z_call (m' := M_X8_size) rfl rfl]
  exact ⟨fun q => ⟨⟨q.1.2.1, Nat.eq_of_beq_eq_true q.1.2.2⟩, q.2⟩, fun q => ⟨⟨Nat.le_add_left _ _, q.1.1, beq_of2 q.1.2⟩, q.2⟩⟩
theorem E_X8_size {v0 v1 v2 : Value} : Ev M_X8_size [v0, v1, v2] h P ↔ Z M_X8_size k_X8_size_0 [some v0, some v1, some v2] [] h P := Iff.rfl
theorem R_X8_size : mR M_X8_size = (some .int) := rfl
theorem C_X8_register {x : Nat} {v1 v2 : Value} : Z m ((pc, .invokevirtual i, len, 52, b, 0) :: code) L (v2 :: v1 :: .ref x :: st) h P ↔ ((st.length ≤ 8 ∧ kd h x = 9) ∧ Ev M_X8_register [.ref x, v1, v2] h (fun r h' => Z m code L (r.toList ++ st) h' P)) := by
  rw [Z_call (m' := M_X8_register) rfl rfl]
  exact ⟨fun q => ⟨⟨q.1.2.1, Nat.eq_of_beq_eq_true q.1.2.2⟩, q.2⟩, fun q => ⟨⟨Nat.le_add_left _ _, q.1.1, beq_of2 q.1.2⟩, q.2⟩⟩
theorem E_X8_register {v0 v1 v2 : Value} : Ev M_X8_register [v0, v1, v2] h P ↔ Z M_X8_register k_X8_register_0 [some v0, some v1, some v2, none] [] h P := Iff.rfl
theorem R_X8_register : mR M_X8_register = (some .int) := rfl
theorem C_X8_length {x : Nat} {v1 v2 : Value} : Z m ((pc, .invokevirtual i, len, 53, b, 0) :: code) L (v2 :: v1 :: .ref x :: st) h P ↔ ((st.length ≤ 8 ∧ kd h x = 9) ∧ Ev M_X8_length [.ref x, v1, v2] h (fun r h' => Z m code L (r.toList ++ st) h' P)) := by
  rw [Z_call (m' := M_X8_length) rfl rfl]
  exact ⟨fun q => ⟨⟨q.1.2.1, Nat.eq_of_beq_eq_true q.1.2.2⟩, q.2⟩, fun q => ⟨⟨Nat.le_add_left _ _, q.1.1, beq_of2 q.1.2⟩, q.2⟩⟩
theorem E_X8_length {v0 v1 v2 : Value} : Ev M_X8_length [v0, v1, v2] h P ↔ Z M_X8_length k_X8_length_0 [some v0, some v1, some v2] [] h P := Iff.rfl
theorem R_X8_length : mR M_X8_length = (some .int) := rfl
theorem C_X8_character {x : Nat} {v1 v2 v3 : Value} : Z m ((pc, .invokevirtual i, len, 54, b, 0) :: code) L (v3 :: v2 :: v1 :: .ref x :: st) h P ↔ ((st.length ≤ 8 ∧ kd h x = 9) ∧ Ev M_X8_character [.ref x, v1, v2, v3] h (fun r h' => Z m code L (r.toList ++ st) h' P)) := by
  rw [Z_call (m' := M_X8_character) rfl rfl]
  exact ⟨fun q => ⟨⟨q.1.2.1, Nat.eq_of_beq_eq_true q.1.2.2⟩, q.2⟩, fun q => ⟨⟨Nat.le_add_left _ _, q.1.1, beq_of2 q.1.2⟩, q.2⟩⟩
theorem E_X8_character {v0 v1 v2 v3 : Value} : Ev M_X8_character [v0, v1, v2, v3] h P ↔ Z M_X8_character k_X8_character_0 [some v0, some v1, some v2, some v3, none] [] h P := Iff.rfl
theorem R_X8_character : mR M_X8_character = (some .int) := rfl
theorem C_X8_clock {x : Nat} {v1 v2 : Value} : Z m ((pc, .invokevirtual i, len, 55, b, 0) :: code) L (v2 :: v1 :: .ref x :: st) h P ↔ ((st.length ≤ 8 ∧ kd h x = 9) ∧ Ev M_X8_clock [.ref x, v1, v2] h (fun r h' => Z m code L (r.toList ++ st) h' P)) := by
  rw [Z_call (m' := M_X8_clock) rfl rfl]
  exact ⟨fun q => ⟨⟨q.1.2.1, Nat.eq_of_beq_eq_true q.1.2.2⟩, q.2⟩, fun q => ⟨⟨Nat.le_add_left _ _, q.1.1, beq_of2 q.1.2⟩, q.2⟩⟩
theorem E_X8_clock {v0 v1 v2 : Value} : Ev M_X8_clock [v0, v1, v2] h P ↔ Z M_X8_clock k_X8_clock_0 [some v0, some v1, some v2] [] h P := Iff.rfl
theorem R_X8_clock : mR M_X8_clock = (some .int) := rfl
theorem C_X8_knows {x : Nat} {v1 v2 v3 : Value} : Z m ((pc, .invokevirtual i, len, 56, b, 0) :: code) L (v3 :: v2 :: v1 :: .ref x :: st) h P ↔ ((st.length ≤ 8 ∧ kd h x = 9) ∧ Ev M_X8_knows [.ref x, v1, v2, v3] h (fun r h' => Z m code L (r.toList ++ st) h' P)) := by
  rw [Z_call (m' := M_X8_knows) rfl rfl]
  exact ⟨fun q => ⟨⟨q.1.2.1, Nat.eq_of_beq_eq_true q.1.2.2⟩, q.2⟩, fun q => ⟨⟨Nat.le_add_left _ _, q.1.1, beq_of2 q.1.2⟩, q.2⟩⟩
theorem E_X8_knows {v0 v1 v2 v3 : Value} : Ev M_X8_knows [v0, v1, v2, v3] h P ↔ Z M_X8_knows k_X8_knows_0 [some v0, some v1, some v2, some v3] [] h P := Iff.rfl
theorem R_X8_knows : mR M_X8_knows = (some .int) := rfl
theorem C_X8_count {x : Nat} {v1 v2 : Value} : Z m ((pc, .invokevirtual i, len, 57, b, 0) :: code) L (v2 :: v1 :: .ref x :: st) h P ↔ ((st.length ≤ 8 ∧ kd h x = 9) ∧ Ev M_X8_count [.ref x, v1, v2] h (fun r h' => Z m code L (r.toList ++ st) h' P)) := by
  rw [Z_call (m' := M_X8_count) rfl rfl]
  exact ⟨fun q => ⟨⟨q.1.2.1, Nat.eq_of_beq_eq_true q.1.2.2⟩, q.2⟩, fun q => ⟨⟨Nat.le_add_left _ _, q.1.1, beq_of2 q.1.2⟩, q.2⟩⟩
theorem E_X8_count {v0 v1 v2 : Value} : Ev M_X8_count [v0, v1, v2] h P ↔ Z M_X8_count k_X8_count_0 [some v0, some v1, some v2, none] [] h P := Iff.rfl
theorem R_X8_count : mR M_X8_count = (some .int) := rfl
theorem C_X8_message {x : Nat} {v1 v2 v3 v4 : Value} : Z m ((pc, .invokevirtual i, len, 58, b, 0) :: code) L (v4 :: v3 :: v2 :: v1 :: .ref x :: st) h P ↔ ((st.length ≤ 8 ∧ kd h x = 9) ∧ Ev M_X8_message [.ref x, v1, v2, v3, v4] h (fun r h' => Z m code L (r.toList ++ st) h' P)) := by
  rw [Z_call (m' := M_X8_message) rfl rfl]
  exact ⟨fun q => ⟨⟨q.1.2.1, Nat.eq_of_beq_eq_true q.1.2.2⟩, q.2⟩, fun q => ⟨⟨Nat.le_add_left _ _, q.1.1, beq_of2 q.1.2⟩, q.2⟩⟩
theorem E_X8_message {v0 v1 v2 v3 v4 : Value} : Ev M_X8_message [v0, v1, v2, v3, v4] h P ↔ Z M_X8_message k_X8_message_0 [some v0, some v1, some v2, some v3, some v4, none] [] h P := Iff.rfl
theorem R_X8_message : mR M_X8_message = (some .int) := rfl
theorem C_X8_way {x : Nat} {v1 v2 : Value} : Z m ((pc, .invokevirtual i, len, 59, b, 0) :: code) L (v2 :: v1 :: .ref x :: st) h P ↔ ((st.length ≤ 8 ∧ kd h x = 9) ∧ Ev M_X8_way [.ref x, v1, v2] h (fun r h' => Z m code L (r.toList ++ st) h' P)) := by
  rw [Z_call (m' := M_X8_way) rfl rfl]
  exact ⟨fun q => ⟨⟨q.1.2.1, Nat.eq_of_beq_eq_true q.1.2.2⟩, q.2⟩, fun q => ⟨⟨Nat.le_add_left _ _, q.1.1, beq_of2 q.1.2⟩, q.2⟩⟩
theorem E_X8_way {v0 v1 v2 : Value} : Ev M_X8_way [v0, v1, v2] h P ↔ Z M_X8_way k_X8_way_0 [some v0, some v1, some v2] [] h P := Iff.rfl
theorem R_X8_way : mR M_X8_way = (some .int) := rfl
theorem C_X8_isReplica {v0 : Value} : Z m ((pc, .invokestatic i, len, 60, b, 2) :: code) L (v0 :: st) h P ↔ (st.length ≤ 8 ∧ Ev M_X8_isReplica [v0] h (fun r h' => Z m code L (r.toList ++ st) h' P)) := by
  rw [Z_call (m' := M_X8_isReplica) rfl rfl]
  exact ⟨fun q => ⟨q.1.2.1, q.2⟩, fun q => ⟨⟨Nat.le_add_left _ _, q.1, rfl⟩, q.2⟩⟩
theorem E_X8_isReplica {v0 : Value} : Ev M_X8_isReplica [v0] h P ↔ Z M_X8_isReplica k_X8_isReplica_0 [some v0] [] h P := Iff.rfl
theorem R_X8_isReplica : mR M_X8_isReplica = (some .boolean) := rfl
theorem C_X8_isOfPair {v0 : Value} : Z m ((pc, .invokestatic i, len, 61, b, 2) :: code) L (v0 :: st) h P ↔ (st.length ≤ 8 ∧ Ev M_X8_isOfPair [v0] h (fun r h' => Z m code L (r.toList ++ st) h' P)) := by
  rw [Z_call (m' := M_X8_isOfPair) rfl rfl]
  exact ⟨fun q => ⟨q.1.2.1, q.2⟩, fun q => ⟨⟨Nat.le_add_left _ _, q.1, rfl⟩, q.2⟩⟩
theorem E_X8_isOfPair {v0 : Value} : Ev M_X8_isOfPair [v0] h P ↔ Z M_X8_isOfPair k_X8_isOfPair_0 [some v0] [] h P := Iff.rfl
theorem R_X8_isOfPair : mR M_X8_isOfPair = (some .boolean) := rfl
theorem C_X8_isElement {v0 : Value} : Z m ((pc, .invokestatic i, len, 62, b, 2) :: code) L (v0 :: st) h P ↔ (st.length ≤ 8 ∧ Ev M_X8_isElement [v0] h (fun r h' => Z m code L (r.toList ++ st) h' P)) := by
  rw [Z_call (m' := M_X8_isElement) rfl rfl]
  exact ⟨fun q => ⟨q.1.2.1, q.2⟩, fun q => ⟨⟨Nat.le_add_left _ _, q.1, rfl⟩, q.2⟩⟩
theorem E_X8_isElement {v0 : Value} : Ev M_X8_isElement [v0] h P ↔ Z M_X8_isElement k_X8_isElement_0 [some v0] [] h P := Iff.rfl
theorem R_X8_isElement : mR M_X8_isElement = (some .boolean) := rfl
theorem C_X8_isCharacter {v0 : Value} : Z m ((pc, .invokestatic i, len, 63, b, 2) :: code) L (v0 :: st) h P ↔ (st.length ≤ 8 ∧ Ev M_X8_isCharacter [v0] h (fun r h' => Z m code L (r.toList ++ st) h' P)) := by
  rw [Z_call (m' := M_X8_isCharacter) rfl rfl]
  exact ⟨fun q => ⟨q.1.2.1, q.2⟩, fun q => ⟨⟨Nat.le_add_left _ _, q.1, rfl⟩, q.2⟩⟩
theorem E_X8_isCharacter {v0 : Value} : Ev M_X8_isCharacter [v0] h P ↔ Z M_X8_isCharacter k_X8_isCharacter_0 [some v0] [] h P := Iff.rfl
theorem R_X8_isCharacter : mR M_X8_isCharacter = (some .boolean) := rfl
theorem C_X8_isWay {v0 v1 : Value} : Z m ((pc, .invokestatic i, len, 64, b, 2) :: code) L (v1 :: v0 :: st) h P ↔ (st.length ≤ 8 ∧ Ev M_X8_isWay [v0, v1] h (fun r h' => Z m code L (r.toList ++ st) h' P)) := by
  rw [Z_call (m' := M_X8_isWay) rfl rfl]
  exact ⟨fun q => ⟨q.1.2.1, q.2⟩, fun q => ⟨⟨Nat.le_add_left _ _, q.1, rfl⟩, q.2⟩⟩
theorem E_X8_isWay {v0 v1 : Value} : Ev M_X8_isWay [v0, v1] h P ↔ Z M_X8_isWay k_X8_isWay_0 [some v0, some v1] [] h P := Iff.rfl
theorem R_X8_isWay : mR M_X8_isWay = (some .boolean) := rfl
theorem C_X8_oneIf {v0 : Value} : Z m ((pc, .invokestatic i, len, 65, b, 2) :: code) L (v0 :: st) h P ↔ (st.length ≤ 8 ∧ Ev M_X8_oneIf [v0] h (fun r h' => Z m code L (r.toList ++ st) h' P)) := by
  rw [Z_call (m' := M_X8_oneIf) rfl rfl]
  exact ⟨fun q => ⟨q.1.2.1, q.2⟩, fun q => ⟨⟨Nat.le_add_left _ _, q.1, rfl⟩, q.2⟩⟩
theorem E_X8_oneIf {v0 : Value} : Ev M_X8_oneIf [v0] h P ↔ Z M_X8_oneIf k_X8_oneIf_0 [some v0] [] h P := Iff.rfl
theorem R_X8_oneIf : mR M_X8_oneIf = (some .int) := rfl
theorem C_X8_isOnWay {x : Nat} {v1 v2 v3 : Value} : Z m ((pc, .invokevirtual i, len, 66, b, 0) :: code) L (v3 :: v2 :: v1 :: .ref x :: st) h P ↔ ((st.length ≤ 8 ∧ kd h x = 9) ∧ Ev M_X8_isOnWay [.ref x, v1, v2, v3] h (fun r h' => Z m code L (r.toList ++ st) h' P)) := by
  rw [Z_call (m' := M_X8_isOnWay) rfl rfl]
  exact ⟨fun q => ⟨⟨q.1.2.1, Nat.eq_of_beq_eq_true q.1.2.2⟩, q.2⟩, fun q => ⟨⟨Nat.le_add_left _ _, q.1.1, beq_of2 q.1.2⟩, q.2⟩⟩
theorem E_X8_isOnWay {v0 v1 v2 v3 : Value} : Ev M_X8_isOnWay [v0, v1, v2, v3] h P ↔ Z M_X8_isOnWay k_X8_isOnWay_0 [some v0, some v1, some v2, some v3] [] h P := Iff.rfl
theorem R_X8_isOnWay : mR M_X8_isOnWay = (some .boolean) := rfl
theorem C_X8_wayBetween {x : Nat} {v1 v2 : Value} : Z m ((pc, .invokevirtual i, len, 67, b, 0) :: code) L (v2 :: v1 :: .ref x :: st) h P ↔ ((st.length ≤ 8 ∧ kd h x = 9) ∧ Ev M_X8_wayBetween [.ref x, v1, v2] h (fun r h' => Z m code L (r.toList ++ st) h' P)) := by
  rw [Z_call (m' := M_X8_wayBetween) rfl rfl]
  exact ⟨fun q => ⟨⟨q.1.2.1, Nat.eq_of_beq_eq_true q.1.2.2⟩, q.2⟩, fun q => ⟨⟨Nat.le_add_left _ _, q.1.1, beq_of2 q.1.2⟩, q.2⟩⟩
theorem E_X8_wayBetween {v0 v1 v2 : Value} : Ev M_X8_wayBetween [v0, v1, v2] h P ↔ Z M_X8_wayBetween k_X8_wayBetween_0 [some v0, some v1, some v2] [] h P := Iff.rfl
theorem R_X8_wayBetween : mR M_X8_wayBetween = (some (.object "ReplicaStore$Way")) := rfl
theorem C_X8_operate {x : Nat} {v1 v2 : Value} : Z m ((pc, .invokevirtual i, len, 68, b, 0) :: code) L (v2 :: v1 :: .ref x :: st) h P ↔ ((st.length ≤ 8 ∧ kd h x = 9) ∧ Ev M_X8_operate [.ref x, v1, v2] h (fun r h' => Z m code L (r.toList ++ st) h' P)) := by
  rw [Z_call (m' := M_X8_operate) rfl rfl]
  exact ⟨fun q => ⟨⟨q.1.2.1, Nat.eq_of_beq_eq_true q.1.2.2⟩, q.2⟩, fun q => ⟨⟨Nat.le_add_left _ _, q.1.1, beq_of2 q.1.2⟩, q.2⟩⟩
theorem E_X8_operate {v0 v1 v2 : Value} : Ev M_X8_operate [v0, v1, v2] h P ↔ Z M_X8_operate k_X8_operate_0 [some v0, some v1, some v2, none, none, none, none] [] h P := Iff.rfl
theorem R_X8_operate : mR M_X8_operate = (some .int) := rfl
theorem C_X8_sendClock {x : Nat} {v1 v2 v3 : Value} : Z m ((pc, .invokevirtual i, len, 69, b, 0) :: code) L (v3 :: v2 :: v1 :: .ref x :: st) h P ↔ ((st.length ≤ 8 ∧ kd h x = 9) ∧ Ev M_X8_sendClock [.ref x, v1, v2, v3] h (fun r h' => Z m code L (r.toList ++ st) h' P)) := by
  rw [Z_call (m' := M_X8_sendClock) rfl rfl]
  exact ⟨fun q => ⟨⟨q.1.2.1, Nat.eq_of_beq_eq_true q.1.2.2⟩, q.2⟩, fun q => ⟨⟨Nat.le_add_left _ _, q.1.1, beq_of2 q.1.2⟩, q.2⟩⟩
theorem E_X8_sendClock {v0 v1 v2 v3 : Value} : Ev M_X8_sendClock [v0, v1, v2, v3] h P ↔ Z M_X8_sendClock k_X8_sendClock_0 [some v0, some v1, some v2, some v3, none] [] h P := Iff.rfl
theorem R_X8_sendClock : mR M_X8_sendClock = (some .int) := rfl
theorem C_X8_answer {x : Nat} {v1 v2 v3 : Value} : Z m ((pc, .invokevirtual i, len, 70, b, 0) :: code) L (v3 :: v2 :: v1 :: .ref x :: st) h P ↔ ((st.length ≤ 8 ∧ kd h x = 9) ∧ Ev M_X8_answer [.ref x, v1, v2, v3] h (fun r h' => Z m code L (r.toList ++ st) h' P)) := by
  rw [Z_call (m' := M_X8_answer) rfl rfl]
  exact ⟨fun q => ⟨⟨q.1.2.1, Nat.eq_of_beq_eq_true q.1.2.2⟩, q.2⟩, fun q => ⟨⟨Nat.le_add_left _ _, q.1.1, beq_of2 q.1.2⟩, q.2⟩⟩
theorem E_X8_answer {v0 v1 v2 v3 : Value} : Ev M_X8_answer [v0, v1, v2, v3] h P ↔ Z M_X8_answer k_X8_answer_0 [some v0, some v1, some v2, some v3, none, none, none, none] [] h P := Iff.rfl
theorem R_X8_answer : mR M_X8_answer = none := rfl
theorem C_X9_init {x : Nat} : Z m ((pc, .invokespecial i, len, 71, b, 1) :: code) L (.ref x :: st) h P ↔ (st.length ≤ 8 ∧ Ev M_X9_init [.ref x] h (fun r h' => Z m code L (r.toList ++ st) h' P)) := by
  rw [Z_call (m' := M_X9_init) rfl rfl]
  exact ⟨fun q => ⟨q.1.2.1, q.2⟩, fun q => ⟨⟨Nat.le_add_left _ _, q.1, rfl⟩, q.2⟩⟩
theorem C_X9_init_n {x : Nat} : Z m ((pc, .invokespecial i, len, 71, b, 3) :: code) L (.ref x :: st) h P ↔ (st.length ≤ 8 ∧ Ev M_X9_init [.ref x] h (fun r h' => Z m code L (r.toList ++ st) h' P)) := by
  rw [Z_call (m' := M_X9_init) rfl rfl]
  exact ⟨fun q => ⟨q.1.2.1, q.2⟩, fun q => ⟨⟨Nat.le_add_left _ _, q.1, rfl⟩, q.2⟩⟩
theorem E_X9_init {v0 : Value} : Ev M_X9_init [v0] h P ↔ Z M_X9_init k_X9_init_0 [some v0] [] h P := Iff.rfl
theorem R_X9_init : mR M_X9_init = none := rfl
theorem C_X9_in {v0 v1 v2 : Value} : Z m ((pc, .invokestatic i, len, 72, b, 2) :: code) L (v2 :: v1 :: v0 :: st) h P ↔ (st.length ≤ 8 ∧ Ev M_X9_in [v0, v1, v2] h (fun r h' => Z m code L (r.toList ++ st) h' P)) := by
  rw [Z_call (m' := M_X9_in) rfl rfl]
  exact ⟨fun q => ⟨q.1.2.1, q.2⟩, fun q => ⟨⟨Nat.le_add_left _ _, q.1, rfl⟩, q.2⟩⟩
theorem E_X9_in {v0 v1 v2 : Value} : Ev M_X9_in [v0, v1, v2] h P ↔ Z M_X9_in k_X9_in_0 [some v0, some v1, some v2] [] h P := Iff.rfl
theorem R_X9_in : mR M_X9_in = (some .boolean) := rfl
theorem C_X9_isReplica {v0 : Value} : Z m ((pc, .invokestatic i, len, 73, b, 2) :: code) L (v0 :: st) h P ↔ (st.length ≤ 8 ∧ Ev M_X9_isReplica [v0] h (fun r h' => Z m code L (r.toList ++ st) h' P)) := by
  rw [Z_call (m' := M_X9_isReplica) rfl rfl]
  exact ⟨fun q => ⟨q.1.2.1, q.2⟩, fun q => ⟨⟨Nat.le_add_left _ _, q.1, rfl⟩, q.2⟩⟩
theorem E_X9_isReplica {v0 : Value} : Ev M_X9_isReplica [v0] h P ↔ Z M_X9_isReplica k_X9_isReplica_0 [some v0] [] h P := Iff.rfl
theorem R_X9_isReplica : mR M_X9_isReplica = (some .boolean) := rfl
theorem C_X9_isTwo {v0 : Value} : Z m ((pc, .invokestatic i, len, 74, b, 2) :: code) L (v0 :: st) h P ↔ (st.length ≤ 8 ∧ Ev M_X9_isTwo [v0] h (fun r h' => Z m code L (r.toList ++ st) h' P)) := by
  rw [Z_call (m' := M_X9_isTwo) rfl rfl]
  exact ⟨fun q => ⟨q.1.2.1, q.2⟩, fun q => ⟨⟨Nat.le_add_left _ _, q.1, rfl⟩, q.2⟩⟩
theorem E_X9_isTwo {v0 : Value} : Ev M_X9_isTwo [v0] h P ↔ Z M_X9_isTwo k_X9_isTwo_0 [some v0] [] h P := Iff.rfl
theorem R_X9_isTwo : mR M_X9_isTwo = (some .boolean) := rfl
theorem C_X9_ownerOf {v0 : Value} : Z m ((pc, .invokestatic i, len, 75, b, 2) :: code) L (v0 :: st) h P ↔ (st.length ≤ 8 ∧ Ev M_X9_ownerOf [v0] h (fun r h' => Z m code L (r.toList ++ st) h' P)) := by
  rw [Z_call (m' := M_X9_ownerOf) rfl rfl]
  exact ⟨fun q => ⟨q.1.2.1, q.2⟩, fun q => ⟨⟨Nat.le_add_left _ _, q.1, rfl⟩, q.2⟩⟩
theorem E_X9_ownerOf {v0 : Value} : Ev M_X9_ownerOf [v0] h P ↔ Z M_X9_ownerOf k_X9_ownerOf_0 [some v0] [] h P := Iff.rfl
theorem R_X9_ownerOf : mR M_X9_ownerOf = (some .int) := rfl
theorem C_X9_numberOf {v0 : Value} : Z m ((pc, .invokestatic i, len, 76, b, 2) :: code) L (v0 :: st) h P ↔ (st.length ≤ 8 ∧ Ev M_X9_numberOf [v0] h (fun r h' => Z m code L (r.toList ++ st) h' P)) := by
  rw [Z_call (m' := M_X9_numberOf) rfl rfl]
  exact ⟨fun q => ⟨q.1.2.1, q.2⟩, fun q => ⟨⟨Nat.le_add_left _ _, q.1, rfl⟩, q.2⟩⟩
theorem E_X9_numberOf {v0 : Value} : Ev M_X9_numberOf [v0] h P ↔ Z M_X9_numberOf k_X9_numberOf_0 [some v0] [] h P := Iff.rfl
theorem R_X9_numberOf : mR M_X9_numberOf = (some .int) := rfl
theorem C_X9_isBefore {x : Nat} {v1 v2 : Value} : Z m ((pc, .invokevirtual i, len, 77, b, 0) :: code) L (v2 :: v1 :: .ref x :: st) h P ↔ ((st.length ≤ 8 ∧ kd h x = 10) ∧ Ev M_X9_isBefore [.ref x, v1, v2] h (fun r h' => Z m code L (r.toList ++ st) h' P)) := by
  rw [Z_call (m' := M_X9_isBefore) rfl rfl]
  exact ⟨fun q => ⟨⟨q.1.2.1, Nat.eq_of_beq_eq_true q.1.2.2⟩, q.2⟩, fun q => ⟨⟨Nat.le_add_left _ _, q.1.1, beq_of2 q.1.2⟩, q.2⟩⟩
theorem E_X9_isBefore {v0 v1 v2 : Value} : Ev M_X9_isBefore [v0, v1, v2] h P ↔ Z M_X9_isBefore k_X9_isBefore_0 [some v0, some v1, some v2] [] h P := Iff.rfl
theorem R_X9_isBefore : mR M_X9_isBefore = (some .boolean) := rfl
theorem C_X9_hasGreaterMark {x : Nat} {v1 v2 : Value} : Z m ((pc, .invokevirtual i, len, 78, b, 0) :: code) L (v2 :: v1 :: .ref x :: st) h P ↔ ((st.length ≤ 8 ∧ kd h x = 10) ∧ Ev M_X9_hasGreaterMark [.ref x, v1, v2] h (fun r h' => Z m code L (r.toList ++ st) h' P)) := by
  rw [Z_call (m' := M_X9_hasGreaterMark) rfl rfl]
  exact ⟨fun q => ⟨⟨q.1.2.1, Nat.eq_of_beq_eq_true q.1.2.2⟩, q.2⟩, fun q => ⟨⟨Nat.le_add_left _ _, q.1.1, beq_of2 q.1.2⟩, q.2⟩⟩
theorem E_X9_hasGreaterMark {v0 v1 v2 : Value} : Ev M_X9_hasGreaterMark [v0, v1, v2] h P ↔ Z M_X9_hasGreaterMark k_X9_hasGreaterMark_0 [some v0, some v1, some v2] [] h P := Iff.rfl
theorem R_X9_hasGreaterMark : mR M_X9_hasGreaterMark = (some .boolean) := rfl
theorem C_X9_was {x : Nat} {v1 v2 : Value} : Z m ((pc, .invokevirtual i, len, 79, b, 0) :: code) L (v2 :: v1 :: .ref x :: st) h P ↔ ((st.length ≤ 8 ∧ kd h x = 10) ∧ Ev M_X9_was [.ref x, v1, v2] h (fun r h' => Z m code L (r.toList ++ st) h' P)) := by
  rw [Z_call (m' := M_X9_was) rfl rfl]
  exact ⟨fun q => ⟨⟨q.1.2.1, Nat.eq_of_beq_eq_true q.1.2.2⟩, q.2⟩, fun q => ⟨⟨Nat.le_add_left _ _, q.1.1, beq_of2 q.1.2⟩, q.2⟩⟩
theorem E_X9_was {v0 v1 v2 : Value} : Ev M_X9_was [v0, v1, v2] h P ↔ Z M_X9_was k_X9_was_0 [some v0, some v1, some v2] [] h P := Iff.rfl
theorem R_X9_was : mR M_X9_was = (some .boolean) := rfl
theorem C_X9_doOperation {x : Nat} {v1 v2 : Value} : Z m ((pc, .invokevirtual i, len, 80, b, 0) :: code) L (v2 :: v1 :: .ref x :: st) h P ↔ ((st.length ≤ 8 ∧ kd h x = 10) ∧ Ev M_X9_doOperation [.ref x, v1, v2] h (fun r h' => Z m code L (r.toList ++ st) h' P)) := by
  rw [Z_call (m' := M_X9_doOperation) rfl rfl]
  exact ⟨fun q => ⟨⟨q.1.2.1, Nat.eq_of_beq_eq_true q.1.2.2⟩, q.2⟩, fun q => ⟨⟨Nat.le_add_left _ _, q.1.1, beq_of2 q.1.2⟩, q.2⟩⟩
theorem E_X9_doOperation {v0 v1 v2 : Value} : Ev M_X9_doOperation [v0, v1, v2] h P ↔ Z M_X9_doOperation k_X9_doOperation_0 [some v0, some v1, some v2] [] h P := Iff.rfl
theorem R_X9_doOperation : mR M_X9_doOperation = none := rfl
theorem C_X9_newOperation {x : Nat} {v1 v2 v3 v4 v5 : Value} : Z m ((pc, .invokevirtual i, len, 81, b, 0) :: code) L (v5 :: v4 :: v3 :: v2 :: v1 :: .ref x :: st) h P ↔ ((st.length ≤ 8 ∧ kd h x = 10) ∧ Ev M_X9_newOperation [.ref x, v1, v2, v3, v4, v5] h (fun r h' => Z m code L (r.toList ++ st) h' P)) := by
  rw [Z_call (m' := M_X9_newOperation) rfl rfl]
  exact ⟨fun q => ⟨⟨q.1.2.1, Nat.eq_of_beq_eq_true q.1.2.2⟩, q.2⟩, fun q => ⟨⟨Nat.le_add_left _ _, q.1.1, beq_of2 q.1.2⟩, q.2⟩⟩
theorem E_X9_newOperation {v0 v1 v2 v3 v4 v5 : Value} : Ev M_X9_newOperation [v0, v1, v2, v3, v4, v5] h P ↔ Z M_X9_newOperation k_X9_newOperation_0 [some v0, some v1, some v2, some v3, some v4, some v5, none, none] [] h P := Iff.rfl
theorem R_X9_newOperation : mR M_X9_newOperation = (some .int) := rfl
theorem C_X9_add {x : Nat} {v1 v2 v3 : Value} : Z m ((pc, .invokevirtual i, len, 82, b, 0) :: code) L (v3 :: v2 :: v1 :: .ref x :: st) h P ↔ ((st.length ≤ 8 ∧ kd h x = 10) ∧ Ev M_X9_add [.ref x, v1, v2, v3] h (fun r h' => Z m code L (r.toList ++ st) h' P)) := by
  rw [Z_call (m' := M_X9_add) rfl rfl]
  exact ⟨fun q => ⟨⟨q.1.2.1, Nat.eq_of_beq_eq_true q.1.2.2⟩, q.2⟩, fun q => ⟨⟨Nat.le_add_left _ _, q.1.1, beq_of2 q.1.2⟩, q.2⟩⟩
theorem E_X9_add {v0 v1 v2 v3 : Value} : Ev M_X9_add [v0, v1, v2, v3] h P ↔ Z M_X9_add k_X9_add_0 [some v0, some v1, some v2, some v3] [] h P := Iff.rfl
theorem R_X9_add : mR M_X9_add = (some .int) := rfl
theorem C_X9_isElement {v0 v1 v2 : Value} : Z m ((pc, .invokestatic i, len, 83, b, 2) :: code) L (v2 :: v1 :: v0 :: st) h P ↔ (st.length ≤ 8 ∧ Ev M_X9_isElement [v0, v1, v2] h (fun r h' => Z m code L (r.toList ++ st) h' P)) := by
  rw [Z_call (m' := M_X9_isElement) rfl rfl]
  exact ⟨fun q => ⟨q.1.2.1, q.2⟩, fun q => ⟨⟨Nat.le_add_left _ _, q.1, rfl⟩, q.2⟩⟩
theorem E_X9_isElement {v0 v1 v2 : Value} : Ev M_X9_isElement [v0, v1, v2] h P ↔ Z M_X9_isElement k_X9_isElement_0 [some v0, some v1, some v2] [] h P := Iff.rfl
theorem R_X9_isElement : mR M_X9_isElement = (some .boolean) := rfl
theorem C_X9_put {x : Nat} {v1 v2 v3 : Value} : Z m ((pc, .invokevirtual i, len, 84, b, 0) :: code) L (v3 :: v2 :: v1 :: .ref x :: st) h P ↔ ((st.length ≤ 8 ∧ kd h x = 10) ∧ Ev M_X9_put [.ref x, v1, v2, v3] h (fun r h' => Z m code L (r.toList ++ st) h' P)) := by
  rw [Z_call (m' := M_X9_put) rfl rfl]
  exact ⟨fun q => ⟨⟨q.1.2.1, Nat.eq_of_beq_eq_true q.1.2.2⟩, q.2⟩, fun q => ⟨⟨Nat.le_add_left _ _, q.1.1, beq_of2 q.1.2⟩, q.2⟩⟩
theorem E_X9_put {v0 v1 v2 v3 : Value} : Ev M_X9_put [v0, v1, v2, v3] h P ↔ Z M_X9_put k_X9_put_0 [some v0, some v1, some v2, some v3] [] h P := Iff.rfl
theorem R_X9_put : mR M_X9_put = (some .int) := rfl
theorem C_X9_take {x : Nat} {v1 v2 v3 : Value} : Z m ((pc, .invokevirtual i, len, 85, b, 0) :: code) L (v3 :: v2 :: v1 :: .ref x :: st) h P ↔ ((st.length ≤ 8 ∧ kd h x = 10) ∧ Ev M_X9_take [.ref x, v1, v2, v3] h (fun r h' => Z m code L (r.toList ++ st) h' P)) := by
  rw [Z_call (m' := M_X9_take) rfl rfl]
  exact ⟨fun q => ⟨⟨q.1.2.1, Nat.eq_of_beq_eq_true q.1.2.2⟩, q.2⟩, fun q => ⟨⟨Nat.le_add_left _ _, q.1.1, beq_of2 q.1.2⟩, q.2⟩⟩
theorem E_X9_take {v0 v1 v2 v3 : Value} : Ev M_X9_take [v0, v1, v2, v3] h P ↔ Z M_X9_take k_X9_take_0 [some v0, some v1, some v2, some v3] [] h P := Iff.rfl
theorem R_X9_take : mR M_X9_take = (some .int) := rfl
theorem C_X9_write {x : Nat} {v1 v2 v3 : Value} : Z m ((pc, .invokevirtual i, len, 86, b, 0) :: code) L (v3 :: v2 :: v1 :: .ref x :: st) h P ↔ ((st.length ≤ 8 ∧ kd h x = 10) ∧ Ev M_X9_write [.ref x, v1, v2, v3] h (fun r h' => Z m code L (r.toList ++ st) h' P)) := by
  rw [Z_call (m' := M_X9_write) rfl rfl]
  exact ⟨fun q => ⟨⟨q.1.2.1, Nat.eq_of_beq_eq_true q.1.2.2⟩, q.2⟩, fun q => ⟨⟨Nat.le_add_left _ _, q.1.1, beq_of2 q.1.2⟩, q.2⟩⟩
theorem E_X9_write {v0 v1 v2 v3 : Value} : Ev M_X9_write [v0, v1, v2, v3] h P ↔ Z M_X9_write k_X9_write_0 [some v0, some v1, some v2, some v3] [] h P := Iff.rfl
theorem R_X9_write : mR M_X9_write = (some .int) := rfl
theorem C_X9_insert {x : Nat} {v1 v2 v3 v4 : Value} : Z m ((pc, .invokevirtual i, len, 87, b, 0) :: code) L (v4 :: v3 :: v2 :: v1 :: .ref x :: st) h P ↔ ((st.length ≤ 8 ∧ kd h x = 10) ∧ Ev M_X9_insert [.ref x, v1, v2, v3, v4] h (fun r h' => Z m code L (r.toList ++ st) h' P)) := by
  rw [Z_call (m' := M_X9_insert) rfl rfl]
  exact ⟨fun q => ⟨⟨q.1.2.1, Nat.eq_of_beq_eq_true q.1.2.2⟩, q.2⟩, fun q => ⟨⟨Nat.le_add_left _ _, q.1.1, beq_of2 q.1.2⟩, q.2⟩⟩
theorem E_X9_insert {v0 v1 v2 v3 v4 : Value} : Ev M_X9_insert [v0, v1, v2, v3, v4] h P ↔ Z M_X9_insert k_X9_insert_0 [some v0, some v1, some v2, some v3, some v4] [] h P := Iff.rfl
theorem R_X9_insert : mR M_X9_insert = (some .int) := rfl
theorem C_X9_remove {x : Nat} {v1 v2 v3 : Value} : Z m ((pc, .invokevirtual i, len, 88, b, 0) :: code) L (v3 :: v2 :: v1 :: .ref x :: st) h P ↔ ((st.length ≤ 8 ∧ kd h x = 10) ∧ Ev M_X9_remove [.ref x, v1, v2, v3] h (fun r h' => Z m code L (r.toList ++ st) h' P)) := by
  rw [Z_call (m' := M_X9_remove) rfl rfl]
  exact ⟨fun q => ⟨⟨q.1.2.1, Nat.eq_of_beq_eq_true q.1.2.2⟩, q.2⟩, fun q => ⟨⟨Nat.le_add_left _ _, q.1.1, beq_of2 q.1.2⟩, q.2⟩⟩
theorem E_X9_remove {v0 v1 v2 v3 : Value} : Ev M_X9_remove [v0, v1, v2, v3] h P ↔ Z M_X9_remove k_X9_remove_0 [some v0, some v1, some v2, some v3] [] h P := Iff.rfl
theorem R_X9_remove : mR M_X9_remove = (some .int) := rfl
theorem C_X9_counter {x : Nat} {v1 v2 : Value} : Z m ((pc, .invokevirtual i, len, 89, b, 0) :: code) L (v2 :: v1 :: .ref x :: st) h P ↔ ((st.length ≤ 8 ∧ kd h x = 10) ∧ Ev M_X9_counter [.ref x, v1, v2] h (fun r h' => Z m code L (r.toList ++ st) h' P)) := by
  rw [Z_call (m' := M_X9_counter) rfl rfl]
  exact ⟨fun q => ⟨⟨q.1.2.1, Nat.eq_of_beq_eq_true q.1.2.2⟩, q.2⟩, fun q => ⟨⟨Nat.le_add_left _ _, q.1.1, beq_of2 q.1.2⟩, q.2⟩⟩
theorem E_X9_counter {v0 v1 v2 : Value} : Ev M_X9_counter [v0, v1, v2] h P ↔ Z M_X9_counter k_X9_counter_0 [some v0, some v1, some v2, none, none] [] h P := Iff.rfl
theorem R_X9_counter : mR M_X9_counter = (some .int) := rfl
theorem C_X9_isTaken {x : Nat} {v1 v2 : Value} : Z m ((pc, .invokevirtual i, len, 90, b, 0) :: code) L (v2 :: v1 :: .ref x :: st) h P ↔ ((st.length ≤ 8 ∧ kd h x = 10) ∧ Ev M_X9_isTaken [.ref x, v1, v2] h (fun r h' => Z m code L (r.toList ++ st) h' P)) := by
  rw [Z_call (m' := M_X9_isTaken) rfl rfl]
  exact ⟨fun q => ⟨⟨q.1.2.1, Nat.eq_of_beq_eq_true q.1.2.2⟩, q.2⟩, fun q => ⟨⟨Nat.le_add_left _ _, q.1.1, beq_of2 q.1.2⟩, q.2⟩⟩
theorem E_X9_isTaken {v0 v1 v2 : Value} : Ev M_X9_isTaken [v0, v1, v2] h P ↔ Z M_X9_isTaken k_X9_isTaken_0 [some v0, some v1, some v2, none, none] [] h P := Iff.rfl
theorem R_X9_isTaken : mR M_X9_isTaken = (some .boolean) := rfl
theorem C_X9_has {x : Nat} {v1 v2 v3 : Value} : Z m ((pc, .invokevirtual i, len, 91, b, 0) :: code) L (v3 :: v2 :: v1 :: .ref x :: st) h P ↔ ((st.length ≤ 8 ∧ kd h x = 10) ∧ Ev M_X9_has [.ref x, v1, v2, v3] h (fun r h' => Z m code L (r.toList ++ st) h' P)) := by
  rw [Z_call (m' := M_X9_has) rfl rfl]
  exact ⟨fun q => ⟨⟨q.1.2.1, Nat.eq_of_beq_eq_true q.1.2.2⟩, q.2⟩, fun q => ⟨⟨Nat.le_add_left _ _, q.1.1, beq_of2 q.1.2⟩, q.2⟩⟩
theorem E_X9_has {v0 v1 v2 v3 : Value} : Ev M_X9_has [v0, v1, v2, v3] h P ↔ Z M_X9_has k_X9_has_0 [some v0, some v1, some v2, some v3, none, none] [] h P := Iff.rfl
theorem R_X9_has : mR M_X9_has = (some .int) := rfl
theorem C_X9_size {x : Nat} {v1 v2 : Value} : Z m ((pc, .invokevirtual i, len, 92, b, 0) :: code) L (v2 :: v1 :: .ref x :: st) h P ↔ ((st.length ≤ 8 ∧ kd h x = 10) ∧ Ev M_X9_size [.ref x, v1, v2] h (fun r h' => Z m code L (r.toList ++ st) h' P)) := by
  rw [Z_call (m' := M_X9_size) rfl rfl]
  exact ⟨fun q => ⟨⟨q.1.2.1, Nat.eq_of_beq_eq_true q.1.2.2⟩, q.2⟩, fun q => ⟨⟨Nat.le_add_left _ _, q.1.1, beq_of2 q.1.2⟩, q.2⟩⟩
theorem E_X9_size {v0 v1 v2 : Value} : Ev M_X9_size [v0, v1, v2] h P ↔ Z M_X9_size k_X9_size_0 [some v0, some v1, some v2, none, none] [] h P := Iff.rfl
theorem R_X9_size : mR M_X9_size = (some .int) := rfl
theorem C_X9_register {x : Nat} {v1 v2 : Value} : Z m ((pc, .invokevirtual i, len, 93, b, 0) :: code) L (v2 :: v1 :: .ref x :: st) h P ↔ ((st.length ≤ 8 ∧ kd h x = 10) ∧ Ev M_X9_register [.ref x, v1, v2] h (fun r h' => Z m code L (r.toList ++ st) h' P)) := by
  rw [Z_call (m' := M_X9_register) rfl rfl]
  exact ⟨fun q => ⟨⟨q.1.2.1, Nat.eq_of_beq_eq_true q.1.2.2⟩, q.2⟩, fun q => ⟨⟨Nat.le_add_left _ _, q.1.1, beq_of2 q.1.2⟩, q.2⟩⟩
theorem E_X9_register {v0 v1 v2 : Value} : Ev M_X9_register [v0, v1, v2] h P ↔ Z M_X9_register k_X9_register_0 [some v0, some v1, some v2, none, none, none] [] h P := Iff.rfl
theorem R_X9_register : mR M_X9_register = (some .int) := rfl
theorem C_X9_isRemoved {x : Nat} {v1 v2 : Value} : Z m ((pc, .invokevirtual i, len, 94, b, 0) :: code) L (v2 :: v1 :: .ref x :: st) h P ↔ ((st.length ≤ 8 ∧ kd h x = 10) ∧ Ev M_X9_isRemoved [.ref x, v1, v2] h (fun r h' => Z m code L (r.toList ++ st) h' P)) := by
  rw [Z_call (m' := M_X9_isRemoved) rfl rfl]
  exact ⟨fun q => ⟨⟨q.1.2.1, Nat.eq_of_beq_eq_true q.1.2.2⟩, q.2⟩, fun q => ⟨⟨Nat.le_add_left _ _, q.1.1, beq_of2 q.1.2⟩, q.2⟩⟩
theorem E_X9_isRemoved {v0 v1 v2 : Value} : Ev M_X9_isRemoved [v0, v1, v2] h P ↔ Z M_X9_isRemoved k_X9_isRemoved_0 [some v0, some v1, some v2, none] [] h P := Iff.rfl
theorem R_X9_isRemoved : mR M_X9_isRemoved = (some .boolean) := rfl
theorem C_X9_pileUp {x : Nat} {v1 v2 v3 v4 : Value} : Z m ((pc, .invokevirtual i, len, 95, b, 0) :: code) L (v4 :: v3 :: v2 :: v1 :: .ref x :: st) h P ↔ ((st.length ≤ 8 ∧ kd h x = 10) ∧ Ev M_X9_pileUp [.ref x, v1, v2, v3, v4] h (fun r h' => Z m code L (r.toList ++ st) h' P)) := by
  rw [Z_call (m' := M_X9_pileUp) rfl rfl]
  exact ⟨fun q => ⟨⟨q.1.2.1, Nat.eq_of_beq_eq_true q.1.2.2⟩, q.2⟩, fun q => ⟨⟨Nat.le_add_left _ _, q.1.1, beq_of2 q.1.2⟩, q.2⟩⟩
theorem E_X9_pileUp {v0 v1 v2 v3 v4 : Value} : Ev M_X9_pileUp [v0, v1, v2, v3, v4] h P ↔ Z M_X9_pileUp k_X9_pileUp_0 [some v0, some v1, some v2, some v3, some v4, none, none, none] [] h P := Iff.rfl
theorem R_X9_pileUp : mR M_X9_pileUp = (some .int) := rfl
theorem C_X9_lay {x : Nat} {v1 v2 v3 : Value} : Z m ((pc, .invokevirtual i, len, 96, b, 0) :: code) L (v3 :: v2 :: v1 :: .ref x :: st) h P ↔ ((st.length ≤ 8 ∧ kd h x = 10) ∧ Ev M_X9_lay [.ref x, v1, v2, v3] h (fun r h' => Z m code L (r.toList ++ st) h' P)) := by
  rw [Z_call (m' := M_X9_lay) rfl rfl]
  exact ⟨fun q => ⟨⟨q.1.2.1, Nat.eq_of_beq_eq_true q.1.2.2⟩, q.2⟩, fun q => ⟨⟨Nat.le_add_left _ _, q.1.1, beq_of2 q.1.2⟩, q.2⟩⟩
theorem E_X9_lay {v0 v1 v2 v3 : Value} : Ev M_X9_lay [v0, v1, v2, v3] h P ↔ Z M_X9_lay k_X9_lay_0 [some v0, some v1, some v2, some v3, none, none] [] h P := Iff.rfl
theorem R_X9_lay : mR M_X9_lay = none := rfl
theorem C_X9_length {x : Nat} {v1 v2 : Value} : Z m ((pc, .invokevirtual i, len, 97, b, 0) :: code) L (v2 :: v1 :: .ref x :: st) h P ↔ ((st.length ≤ 8 ∧ kd h x = 10) ∧ Ev M_X9_length [.ref x, v1, v2] h (fun r h' => Z m code L (r.toList ++ st) h' P)) := by
  rw [Z_call (m' := M_X9_length) rfl rfl]
  exact ⟨fun q => ⟨⟨q.1.2.1, Nat.eq_of_beq_eq_true q.1.2.2⟩, q.2⟩, fun q => ⟨⟨Nat.le_add_left _ _, q.1.1, beq_of2 q.1.2⟩, q.2⟩⟩
theorem E_X9_length {v0 v1 v2 : Value} : Ev M_X9_length [v0, v1, v2] h P ↔ Z M_X9_length k_X9_length_0 [some v0, some v1, some v2] [] h P := Iff.rfl
theorem R_X9_length : mR M_X9_length = (some .int) := rfl
theorem C_X9_character {x : Nat} {v1 v2 v3 : Value} : Z m ((pc, .invokevirtual i, len, 98, b, 0) :: code) L (v3 :: v2 :: v1 :: .ref x :: st) h P ↔ ((st.length ≤ 8 ∧ kd h x = 10) ∧ Ev M_X9_character [.ref x, v1, v2, v3] h (fun r h' => Z m code L (r.toList ++ st) h' P)) := by
  rw [Z_call (m' := M_X9_character) rfl rfl]
  exact ⟨fun q => ⟨⟨q.1.2.1, Nat.eq_of_beq_eq_true q.1.2.2⟩, q.2⟩, fun q => ⟨⟨Nat.le_add_left _ _, q.1.1, beq_of2 q.1.2⟩, q.2⟩⟩
theorem E_X9_character {v0 v1 v2 v3 : Value} : Ev M_X9_character [v0, v1, v2, v3] h P ↔ Z M_X9_character k_X9_character_0 [some v0, some v1, some v2, some v3] [] h P := Iff.rfl
theorem R_X9_character : mR M_X9_character = (some .int) := rfl
theorem C_X9_isWay {v0 v1 : Value} : Z m ((pc, .invokestatic i, len, 99, b, 2) :: code) L (v1 :: v0 :: st) h P ↔ (st.length ≤ 8 ∧ Ev M_X9_isWay [v0, v1] h (fun r h' => Z m code L (r.toList ++ st) h' P)) := by
  rw [Z_call (m' := M_X9_isWay) rfl rfl]
  exact ⟨fun q => ⟨q.1.2.1, q.2⟩, fun q => ⟨⟨Nat.le_add_left _ _, q.1, rfl⟩, q.2⟩⟩
theorem E_X9_isWay {v0 v1 : Value} : Ev M_X9_isWay [v0, v1] h P ↔ Z M_X9_isWay k_X9_isWay_0 [some v0, some v1] [] h P := Iff.rfl
theorem R_X9_isWay : mR M_X9_isWay = (some .boolean) := rfl
theorem C_X9_isMessage {x : Nat} {v1 v2 v3 : Value} : Z m ((pc, .invokevirtual i, len, 100, b, 0) :: code) L (v3 :: v2 :: v1 :: .ref x :: st) h P ↔ ((st.length ≤ 8 ∧ kd h x = 10) ∧ Ev M_X9_isMessage [.ref x, v1, v2, v3] h (fun r h' => Z m code L (r.toList ++ st) h' P)) := by
  rw [Z_call (m' := M_X9_isMessage) rfl rfl]
  exact ⟨fun q => ⟨⟨q.1.2.1, Nat.eq_of_beq_eq_true q.1.2.2⟩, q.2⟩, fun q => ⟨⟨Nat.le_add_left _ _, q.1.1, beq_of2 q.1.2⟩, q.2⟩⟩
theorem E_X9_isMessage {v0 v1 v2 v3 : Value} : Ev M_X9_isMessage [v0, v1, v2, v3] h P ↔ Z M_X9_isMessage k_X9_isMessage_0 [some v0, some v1, some v2, some v3] [] h P := Iff.rfl
theorem R_X9_isMessage : mR M_X9_isMessage = (some .boolean) := rfl
theorem C_X9_send {x : Nat} {v1 v2 v3 v4 v5 v6 : Value} : Z m ((pc, .invokevirtual i, len, 101, b, 0) :: code) L (v6 :: v5 :: v4 :: v3 :: v2 :: v1 :: .ref x :: st) h P ↔ ((st.length ≤ 8 ∧ kd h x = 10) ∧ Ev M_X9_send [.ref x, v1, v2, v3, v4, v5, v6] h (fun r h' => Z m code L (r.toList ++ st) h' P)) := by
  rw [Z_call (m' := M_X9_send) rfl rfl]
  exact ⟨fun q => ⟨⟨q.1.2.1, Nat.eq_of_beq_eq_true q.1.2.2⟩, q.2⟩, fun q => ⟨⟨Nat.le_add_left _ _, q.1.1, beq_of2 q.1.2⟩, q.2⟩⟩
theorem E_X9_send {v0 v1 v2 v3 v4 v5 v6 : Value} : Ev M_X9_send [v0, v1, v2, v3, v4, v5, v6] h P ↔ Z M_X9_send k_X9_send_0 [some v0, some v1, some v2, some v3, some v4, some v5, some v6, none, none, none] [] h P := Iff.rfl
theorem R_X9_send : mR M_X9_send = none := rfl
theorem C_X9_sendOperation {x : Nat} {v1 v2 v3 : Value} : Z m ((pc, .invokevirtual i, len, 102, b, 0) :: code) L (v3 :: v2 :: v1 :: .ref x :: st) h P ↔ ((st.length ≤ 8 ∧ kd h x = 10) ∧ Ev M_X9_sendOperation [.ref x, v1, v2, v3] h (fun r h' => Z m code L (r.toList ++ st) h' P)) := by
  rw [Z_call (m' := M_X9_sendOperation) rfl rfl]
  exact ⟨fun q => ⟨⟨q.1.2.1, Nat.eq_of_beq_eq_true q.1.2.2⟩, q.2⟩, fun q => ⟨⟨Nat.le_add_left _ _, q.1.1, beq_of2 q.1.2⟩, q.2⟩⟩
theorem E_X9_sendOperation {v0 v1 v2 v3 : Value} : Ev M_X9_sendOperation [v0, v1, v2, v3] h P ↔ Z M_X9_sendOperation k_X9_sendOperation_0 [some v0, some v1, some v2, some v3] [] h P := Iff.rfl
theorem R_X9_sendOperation : mR M_X9_sendOperation = none := rfl
theorem C_X9_moveMessage {x : Nat} {v1 v2 : Value} : Z m ((pc, .invokevirtual i, len, 103, b, 0) :: code) L (v2 :: v1 :: .ref x :: st) h P ↔ ((st.length ≤ 8 ∧ kd h x = 10) ∧ Ev M_X9_moveMessage [.ref x, v1, v2] h (fun r h' => Z m code L (r.toList ++ st) h' P)) := by
  rw [Z_call (m' := M_X9_moveMessage) rfl rfl]
  exact ⟨fun q => ⟨⟨q.1.2.1, Nat.eq_of_beq_eq_true q.1.2.2⟩, q.2⟩, fun q => ⟨⟨Nat.le_add_left _ _, q.1.1, beq_of2 q.1.2⟩, q.2⟩⟩
theorem E_X9_moveMessage {v0 v1 v2 : Value} : Ev M_X9_moveMessage [v0, v1, v2] h P ↔ Z M_X9_moveMessage k_X9_moveMessage_0 [some v0, some v1, some v2, none] [] h P := Iff.rfl
theorem R_X9_moveMessage : mR M_X9_moveMessage = none := rfl
theorem C_X9_drop {x : Nat} {v1 v2 : Value} : Z m ((pc, .invokevirtual i, len, 104, b, 0) :: code) L (v2 :: v1 :: .ref x :: st) h P ↔ ((st.length ≤ 8 ∧ kd h x = 10) ∧ Ev M_X9_drop [.ref x, v1, v2] h (fun r h' => Z m code L (r.toList ++ st) h' P)) := by
  rw [Z_call (m' := M_X9_drop) rfl rfl]
  exact ⟨fun q => ⟨⟨q.1.2.1, Nat.eq_of_beq_eq_true q.1.2.2⟩, q.2⟩, fun q => ⟨⟨Nat.le_add_left _ _, q.1.1, beq_of2 q.1.2⟩, q.2⟩⟩
theorem E_X9_drop {v0 v1 v2 : Value} : Ev M_X9_drop [v0, v1, v2] h P ↔ Z M_X9_drop k_X9_drop_0 [some v0, some v1, some v2, none] [] h P := Iff.rfl
theorem R_X9_drop : mR M_X9_drop = none := rfl
theorem C_X9_knowsOf {x : Nat} {v1 v2 v3 : Value} : Z m ((pc, .invokevirtual i, len, 105, b, 0) :: code) L (v3 :: v2 :: v1 :: .ref x :: st) h P ↔ ((st.length ≤ 8 ∧ kd h x = 10) ∧ Ev M_X9_knowsOf [.ref x, v1, v2, v3] h (fun r h' => Z m code L (r.toList ++ st) h' P)) := by
  rw [Z_call (m' := M_X9_knowsOf) rfl rfl]
  exact ⟨fun q => ⟨⟨q.1.2.1, Nat.eq_of_beq_eq_true q.1.2.2⟩, q.2⟩, fun q => ⟨⟨Nat.le_add_left _ _, q.1.1, beq_of2 q.1.2⟩, q.2⟩⟩
theorem E_X9_knowsOf {v0 v1 v2 v3 : Value} : Ev M_X9_knowsOf [v0, v1, v2, v3] h P ↔ Z M_X9_knowsOf k_X9_knowsOf_0 [some v0, some v1, some v2, some v3] [] h P := Iff.rfl
theorem R_X9_knowsOf : mR M_X9_knowsOf = (some .int) := rfl
theorem C_X9_isLogged {x : Nat} {v1 v2 : Value} : Z m ((pc, .invokevirtual i, len, 106, b, 0) :: code) L (v2 :: v1 :: .ref x :: st) h P ↔ ((st.length ≤ 8 ∧ kd h x = 10) ∧ Ev M_X9_isLogged [.ref x, v1, v2] h (fun r h' => Z m code L (r.toList ++ st) h' P)) := by
  rw [Z_call (m' := M_X9_isLogged) rfl rfl]
  exact ⟨fun q => ⟨⟨q.1.2.1, Nat.eq_of_beq_eq_true q.1.2.2⟩, q.2⟩, fun q => ⟨⟨Nat.le_add_left _ _, q.1.1, beq_of2 q.1.2⟩, q.2⟩⟩
theorem E_X9_isLogged {v0 v1 v2 : Value} : Ev M_X9_isLogged [v0, v1, v2] h P ↔ Z M_X9_isLogged k_X9_isLogged_0 [some v0, some v1, some v2, none] [] h P := Iff.rfl
theorem R_X9_isLogged : mR M_X9_isLogged = (some .boolean) := rfl
theorem C_X9_isReady {x : Nat} {v1 v2 : Value} : Z m ((pc, .invokevirtual i, len, 107, b, 0) :: code) L (v2 :: v1 :: .ref x :: st) h P ↔ ((st.length ≤ 8 ∧ kd h x = 10) ∧ Ev M_X9_isReady [.ref x, v1, v2] h (fun r h' => Z m code L (r.toList ++ st) h' P)) := by
  rw [Z_call (m' := M_X9_isReady) rfl rfl]
  exact ⟨fun q => ⟨⟨q.1.2.1, Nat.eq_of_beq_eq_true q.1.2.2⟩, q.2⟩, fun q => ⟨⟨Nat.le_add_left _ _, q.1.1, beq_of2 q.1.2⟩, q.2⟩⟩
theorem E_X9_isReady {v0 v1 v2 : Value} : Ev M_X9_isReady [v0, v1, v2] h P ↔ Z M_X9_isReady k_X9_isReady_0 [some v0, some v1, some v2, none, none, none] [] h P := Iff.rfl
theorem R_X9_isReady : mR M_X9_isReady = (some .boolean) := rfl
theorem C_X9_firstReady {x : Nat} {v1 : Value} : Z m ((pc, .invokevirtual i, len, 108, b, 0) :: code) L (v1 :: .ref x :: st) h P ↔ ((st.length ≤ 8 ∧ kd h x = 10) ∧ Ev M_X9_firstReady [.ref x, v1] h (fun r h' => Z m code L (r.toList ++ st) h' P)) := by
  rw [Z_call (m' := M_X9_firstReady) rfl rfl]
  exact ⟨fun q => ⟨⟨q.1.2.1, Nat.eq_of_beq_eq_true q.1.2.2⟩, q.2⟩, fun q => ⟨⟨Nat.le_add_left _ _, q.1.1, beq_of2 q.1.2⟩, q.2⟩⟩
theorem E_X9_firstReady {v0 v1 : Value} : Ev M_X9_firstReady [v0, v1] h P ↔ Z M_X9_firstReady k_X9_firstReady_0 [some v0, some v1, none] [] h P := Iff.rfl
theorem R_X9_firstReady : mR M_X9_firstReady = (some .int) := rfl
theorem C_X9_isWaiting {x : Nat} {v1 v2 : Value} : Z m ((pc, .invokevirtual i, len, 109, b, 0) :: code) L (v2 :: v1 :: .ref x :: st) h P ↔ ((st.length ≤ 8 ∧ kd h x = 10) ∧ Ev M_X9_isWaiting [.ref x, v1, v2] h (fun r h' => Z m code L (r.toList ++ st) h' P)) := by
  rw [Z_call (m' := M_X9_isWaiting) rfl rfl]
  exact ⟨fun q => ⟨⟨q.1.2.1, Nat.eq_of_beq_eq_true q.1.2.2⟩, q.2⟩, fun q => ⟨⟨Nat.le_add_left _ _, q.1.1, beq_of2 q.1.2⟩, q.2⟩⟩
theorem E_X9_isWaiting {v0 v1 v2 : Value} : Ev M_X9_isWaiting [v0, v1, v2] h P ↔ Z M_X9_isWaiting k_X9_isWaiting_0 [some v0, some v1, some v2, none] [] h P := Iff.rfl
theorem R_X9_isWaiting : mR M_X9_isWaiting = (some .boolean) := rfl
theorem C_X9_take_ {x : Nat} {v1 v2 : Value} : Z m ((pc, .invokevirtual i, len, 110, b, 0) :: code) L (v2 :: v1 :: .ref x :: st) h P ↔ ((st.length ≤ 8 ∧ kd h x = 10) ∧ Ev M_X9_take_ [.ref x, v1, v2] h (fun r h' => Z m code L (r.toList ++ st) h' P)) := by
  rw [Z_call (m' := M_X9_take_) rfl rfl]
  exact ⟨fun q => ⟨⟨q.1.2.1, Nat.eq_of_beq_eq_true q.1.2.2⟩, q.2⟩, fun q => ⟨⟨Nat.le_add_left _ _, q.1.1, beq_of2 q.1.2⟩, q.2⟩⟩
theorem E_X9_take_ {v0 v1 v2 : Value} : Ev M_X9_take_ [v0, v1, v2] h P ↔ Z M_X9_take_ k_X9_take__0 [some v0, some v1, some v2, none, none, none, none] [] h P := Iff.rfl
theorem R_X9_take_ : mR M_X9_take_ = (some .int) := rfl
theorem C_X9_answer {x : Nat} {v1 v2 : Value} : Z m ((pc, .invokevirtual i, len, 111, b, 0) :: code) L (v2 :: v1 :: .ref x :: st) h P ↔ ((st.length ≤ 8 ∧ kd h x = 10) ∧ Ev M_X9_answer [.ref x, v1, v2] h (fun r h' => Z m code L (r.toList ++ st) h' P)) := by
  rw [Z_call (m' := M_X9_answer) rfl rfl]
  exact ⟨fun q => ⟨⟨q.1.2.1, Nat.eq_of_beq_eq_true q.1.2.2⟩, q.2⟩, fun q => ⟨⟨Nat.le_add_left _ _, q.1.1, beq_of2 q.1.2⟩, q.2⟩⟩
theorem E_X9_answer {v0 v1 v2 : Value} : Ev M_X9_answer [v0, v1, v2] h P ↔ Z M_X9_answer k_X9_answer_0 [some v0, some v1, some v2, none, none] [] h P := Iff.rfl
theorem R_X9_answer : mR M_X9_answer = none := rfl
theorem C_X9_deliver {x : Nat} {v1 v2 v3 : Value} : Z m ((pc, .invokevirtual i, len, 112, b, 0) :: code) L (v3 :: v2 :: v1 :: .ref x :: st) h P ↔ ((st.length ≤ 8 ∧ kd h x = 10) ∧ Ev M_X9_deliver [.ref x, v1, v2, v3] h (fun r h' => Z m code L (r.toList ++ st) h' P)) := by
  rw [Z_call (m' := M_X9_deliver) rfl rfl]
  exact ⟨fun q => ⟨⟨q.1.2.1, Nat.eq_of_beq_eq_true q.1.2.2⟩, q.2⟩, fun q => ⟨⟨Nat.le_add_left _ _, q.1.1, beq_of2 q.1.2⟩, q.2⟩⟩
theorem E_X9_deliver {v0 v1 v2 v3 : Value} : Ev M_X9_deliver [v0, v1, v2, v3] h P ↔ Z M_X9_deliver k_X9_deliver_0 [some v0, some v1, some v2, some v3, none, none, none, none, none, none, none] [] h P := Iff.rfl
theorem R_X9_deliver : mR M_X9_deliver = (some .int) := rfl
theorem C_X9_copy {x : Nat} {v1 v2 v3 : Value} : Z m ((pc, .invokevirtual i, len, 113, b, 0) :: code) L (v3 :: v2 :: v1 :: .ref x :: st) h P ↔ ((st.length ≤ 8 ∧ kd h x = 10) ∧ Ev M_X9_copy [.ref x, v1, v2, v3] h (fun r h' => Z m code L (r.toList ++ st) h' P)) := by
  rw [Z_call (m' := M_X9_copy) rfl rfl]
  exact ⟨fun q => ⟨⟨q.1.2.1, Nat.eq_of_beq_eq_true q.1.2.2⟩, q.2⟩, fun q => ⟨⟨Nat.le_add_left _ _, q.1.1, beq_of2 q.1.2⟩, q.2⟩⟩
theorem E_X9_copy {v0 v1 v2 v3 : Value} : Ev M_X9_copy [v0, v1, v2, v3] h P ↔ Z M_X9_copy k_X9_copy_0 [some v0, some v1, some v2, some v3, none] [] h P := Iff.rfl
theorem R_X9_copy : mR M_X9_copy = (some .int) := rfl
theorem C_X9_lose {x : Nat} {v1 v2 v3 : Value} : Z m ((pc, .invokevirtual i, len, 114, b, 0) :: code) L (v3 :: v2 :: v1 :: .ref x :: st) h P ↔ ((st.length ≤ 8 ∧ kd h x = 10) ∧ Ev M_X9_lose [.ref x, v1, v2, v3] h (fun r h' => Z m code L (r.toList ++ st) h' P)) := by
  rw [Z_call (m' := M_X9_lose) rfl rfl]
  exact ⟨fun q => ⟨⟨q.1.2.1, Nat.eq_of_beq_eq_true q.1.2.2⟩, q.2⟩, fun q => ⟨⟨Nat.le_add_left _ _, q.1.1, beq_of2 q.1.2⟩, q.2⟩⟩
theorem E_X9_lose {v0 v1 v2 v3 : Value} : Ev M_X9_lose [v0, v1, v2, v3] h P ↔ Z M_X9_lose k_X9_lose_0 [some v0, some v1, some v2, some v3] [] h P := Iff.rfl
theorem R_X9_lose : mR M_X9_lose = (some .int) := rfl
theorem C_X9_speak {x : Nat} {v1 v2 v3 : Value} : Z m ((pc, .invokevirtual i, len, 115, b, 0) :: code) L (v3 :: v2 :: v1 :: .ref x :: st) h P ↔ ((st.length ≤ 8 ∧ kd h x = 10) ∧ Ev M_X9_speak [.ref x, v1, v2, v3] h (fun r h' => Z m code L (r.toList ++ st) h' P)) := by
  rw [Z_call (m' := M_X9_speak) rfl rfl]
  exact ⟨fun q => ⟨⟨q.1.2.1, Nat.eq_of_beq_eq_true q.1.2.2⟩, q.2⟩, fun q => ⟨⟨Nat.le_add_left _ _, q.1.1, beq_of2 q.1.2⟩, q.2⟩⟩
theorem E_X9_speak {v0 v1 v2 v3 : Value} : Ev M_X9_speak [v0, v1, v2, v3] h P ↔ Z M_X9_speak k_X9_speak_0 [some v0, some v1, some v2, some v3] [] h P := Iff.rfl
theorem R_X9_speak : mR M_X9_speak = (some .int) := rfl
theorem C_X9_ask {x : Nat} {v1 v2 : Value} : Z m ((pc, .invokevirtual i, len, 116, b, 0) :: code) L (v2 :: v1 :: .ref x :: st) h P ↔ ((st.length ≤ 8 ∧ kd h x = 10) ∧ Ev M_X9_ask [.ref x, v1, v2] h (fun r h' => Z m code L (r.toList ++ st) h' P)) := by
  rw [Z_call (m' := M_X9_ask) rfl rfl]
  exact ⟨fun q => ⟨⟨q.1.2.1, Nat.eq_of_beq_eq_true q.1.2.2⟩, q.2⟩, fun q => ⟨⟨Nat.le_add_left _ _, q.1.1, beq_of2 q.1.2⟩, q.2⟩⟩
theorem E_X9_ask {v0 v1 v2 : Value} : Ev M_X9_ask [v0, v1, v2] h P ↔ Z M_X9_ask k_X9_ask_0 [some v0, some v1, some v2] [] h P := Iff.rfl
theorem R_X9_ask : mR M_X9_ask = (some .int) := rfl
theorem C_X9_tell {x : Nat} {v1 v2 : Value} : Z m ((pc, .invokevirtual i, len, 117, b, 0) :: code) L (v2 :: v1 :: .ref x :: st) h P ↔ ((st.length ≤ 8 ∧ kd h x = 10) ∧ Ev M_X9_tell [.ref x, v1, v2] h (fun r h' => Z m code L (r.toList ++ st) h' P)) := by
  rw [Z_call (m' := M_X9_tell) rfl rfl]
  exact ⟨fun q => ⟨⟨q.1.2.1, Nat.eq_of_beq_eq_true q.1.2.2⟩, q.2⟩, fun q => ⟨⟨Nat.le_add_left _ _, q.1.1, beq_of2 q.1.2⟩, q.2⟩⟩
theorem E_X9_tell {v0 v1 v2 : Value} : Ev M_X9_tell [v0, v1, v2] h P ↔ Z M_X9_tell k_X9_tell_0 [some v0, some v1, some v2] [] h P := Iff.rfl
theorem R_X9_tell : mR M_X9_tell = (some .int) := rfl
theorem C_X9_power {x : Nat} {v1 v2 : Value} : Z m ((pc, .invokevirtual i, len, 118, b, 0) :: code) L (v2 :: v1 :: .ref x :: st) h P ↔ ((st.length ≤ 8 ∧ kd h x = 10) ∧ Ev M_X9_power [.ref x, v1, v2] h (fun r h' => Z m code L (r.toList ++ st) h' P)) := by
  rw [Z_call (m' := M_X9_power) rfl rfl]
  exact ⟨fun q => ⟨⟨q.1.2.1, Nat.eq_of_beq_eq_true q.1.2.2⟩, q.2⟩, fun q => ⟨⟨Nat.le_add_left _ _, q.1.1, beq_of2 q.1.2⟩, q.2⟩⟩
theorem E_X9_power {v0 v1 v2 : Value} : Ev M_X9_power [v0, v1, v2] h P ↔ Z M_X9_power k_X9_power_0 [some v0, some v1, some v2, none] [] h P := Iff.rfl
theorem R_X9_power : mR M_X9_power = (some .int) := rfl
theorem C_X9_clock {x : Nat} {v1 v2 : Value} : Z m ((pc, .invokevirtual i, len, 119, b, 0) :: code) L (v2 :: v1 :: .ref x :: st) h P ↔ ((st.length ≤ 8 ∧ kd h x = 10) ∧ Ev M_X9_clock [.ref x, v1, v2] h (fun r h' => Z m code L (r.toList ++ st) h' P)) := by
  rw [Z_call (m' := M_X9_clock) rfl rfl]
  exact ⟨fun q => ⟨⟨q.1.2.1, Nat.eq_of_beq_eq_true q.1.2.2⟩, q.2⟩, fun q => ⟨⟨Nat.le_add_left _ _, q.1.1, beq_of2 q.1.2⟩, q.2⟩⟩
theorem E_X9_clock {v0 v1 v2 : Value} : Ev M_X9_clock [v0, v1, v2] h P ↔ Z M_X9_clock k_X9_clock_0 [some v0, some v1, some v2] [] h P := Iff.rfl
theorem R_X9_clock : mR M_X9_clock = (some .int) := rfl
theorem C_X9_knows {x : Nat} {v1 v2 v3 : Value} : Z m ((pc, .invokevirtual i, len, 120, b, 0) :: code) L (v3 :: v2 :: v1 :: .ref x :: st) h P ↔ ((st.length ≤ 8 ∧ kd h x = 10) ∧ Ev M_X9_knows [.ref x, v1, v2, v3] h (fun r h' => Z m code L (r.toList ++ st) h' P)) := by
  rw [Z_call (m' := M_X9_knows) rfl rfl]
  exact ⟨fun q => ⟨⟨q.1.2.1, Nat.eq_of_beq_eq_true q.1.2.2⟩, q.2⟩, fun q => ⟨⟨Nat.le_add_left _ _, q.1.1, beq_of2 q.1.2⟩, q.2⟩⟩
theorem E_X9_knows {v0 v1 v2 v3 : Value} : Ev M_X9_knows [v0, v1, v2, v3] h P ↔ Z M_X9_knows k_X9_knows_0 [some v0, some v1, some v2, some v3] [] h P := Iff.rfl
theorem R_X9_knows : mR M_X9_knows = (some .int) := rfl
theorem C_X9_charactersOf {x : Nat} {v1 : Value} : Z m ((pc, .invokevirtual i, len, 121, b, 0) :: code) L (v1 :: .ref x :: st) h P ↔ ((st.length ≤ 8 ∧ kd h x = 10) ∧ Ev M_X9_charactersOf [.ref x, v1] h (fun r h' => Z m code L (r.toList ++ st) h' P)) := by
  rw [Z_call (m' := M_X9_charactersOf) rfl rfl]
  exact ⟨fun q => ⟨⟨q.1.2.1, Nat.eq_of_beq_eq_true q.1.2.2⟩, q.2⟩, fun q => ⟨⟨Nat.le_add_left _ _, q.1.1, beq_of2 q.1.2⟩, q.2⟩⟩
theorem E_X9_charactersOf {v0 v1 : Value} : Ev M_X9_charactersOf [v0, v1] h P ↔ Z M_X9_charactersOf k_X9_charactersOf_0 [some v0, some v1, none, none] [] h P := Iff.rfl
theorem R_X9_charactersOf : mR M_X9_charactersOf = (some .int) := rfl
theorem C_X9_count {x : Nat} {v1 v2 : Value} : Z m ((pc, .invokevirtual i, len, 122, b, 0) :: code) L (v2 :: v1 :: .ref x :: st) h P ↔ ((st.length ≤ 8 ∧ kd h x = 10) ∧ Ev M_X9_count [.ref x, v1, v2] h (fun r h' => Z m code L (r.toList ++ st) h' P)) := by
  rw [Z_call (m' := M_X9_count) rfl rfl]
  exact ⟨fun q => ⟨⟨q.1.2.1, Nat.eq_of_beq_eq_true q.1.2.2⟩, q.2⟩, fun q => ⟨⟨Nat.le_add_left _ _, q.1.1, beq_of2 q.1.2⟩, q.2⟩⟩
theorem E_X9_count {v0 v1 v2 : Value} : Ev M_X9_count [v0, v1, v2] h P ↔ Z M_X9_count k_X9_count_0 [some v0, some v1, some v2, none, none, none, none] [] h P := Iff.rfl
theorem R_X9_count : mR M_X9_count = (some .int) := rfl
theorem C_X9_message {x : Nat} {v1 v2 v3 v4 : Value} : Z m ((pc, .invokevirtual i, len, 123, b, 0) :: code) L (v4 :: v3 :: v2 :: v1 :: .ref x :: st) h P ↔ ((st.length ≤ 8 ∧ kd h x = 10) ∧ Ev M_X9_message [.ref x, v1, v2, v3, v4] h (fun r h' => Z m code L (r.toList ++ st) h' P)) := by
  rw [Z_call (m' := M_X9_message) rfl rfl]
  exact ⟨fun q => ⟨⟨q.1.2.1, Nat.eq_of_beq_eq_true q.1.2.2⟩, q.2⟩, fun q => ⟨⟨Nat.le_add_left _ _, q.1.1, beq_of2 q.1.2⟩, q.2⟩⟩
theorem E_X9_message {v0 v1 v2 v3 v4 : Value} : Ev M_X9_message [v0, v1, v2, v3, v4] h P ↔ Z M_X9_message k_X9_message_0 [some v0, some v1, some v2, some v3, some v4, none, none, none] [] h P := Iff.rfl
theorem R_X9_message : mR M_X9_message = (some .int) := rfl
theorem C_X9_way {x : Nat} {v1 v2 : Value} : Z m ((pc, .invokevirtual i, len, 124, b, 0) :: code) L (v2 :: v1 :: .ref x :: st) h P ↔ ((st.length ≤ 8 ∧ kd h x = 10) ∧ Ev M_X9_way [.ref x, v1, v2] h (fun r h' => Z m code L (r.toList ++ st) h' P)) := by
  rw [Z_call (m' := M_X9_way) rfl rfl]
  exact ⟨fun q => ⟨⟨q.1.2.1, Nat.eq_of_beq_eq_true q.1.2.2⟩, q.2⟩, fun q => ⟨⟨Nat.le_add_left _ _, q.1.1, beq_of2 q.1.2⟩, q.2⟩⟩
theorem E_X9_way {v0 v1 v2 : Value} : Ev M_X9_way [v0, v1, v2] h P ↔ Z M_X9_way k_X9_way_0 [some v0, some v1, some v2] [] h P := Iff.rfl
theorem R_X9_way : mR M_X9_way = (some .int) := rfl
theorem C_J6_bitCount_0f7a4 {v0 : Value} : Z m ((pc, .invokestatic i, len, 125, b, 2) :: code) L (v0 :: st) h P ↔ (st.length ≤ 8 ∧ Ev M_J6_bitCount_0f7a4 [v0] h (fun r h' => Z m code L (r.toList ++ st) h' P)) := by
  rw [Z_call (m' := M_J6_bitCount_0f7a4) rfl rfl]
  exact ⟨fun q => ⟨q.1.2.1, q.2⟩, fun q => ⟨⟨Nat.le_add_left _ _, q.1, rfl⟩, q.2⟩⟩
theorem E_J6_bitCount_0f7a4 {v0 : Value} : Ev M_J6_bitCount_0f7a4 [v0] h P ↔ Z M_J6_bitCount_0f7a4 k_J6_bitCount_0f7a4_0 [some v0] [] h P := Iff.rfl
theorem R_J6_bitCount_0f7a4 : mR M_J6_bitCount_0f7a4 = (some .int) := rfl
theorem C_Jxa1e45_init_da8c8 {x : Nat} : Z m ((pc, .invokespecial i, len, 126, b, 1) :: code) L (.ref x :: st) h P ↔ (st.length ≤ 8 ∧ Ev M_Jxa1e45_init_da8c8 [.ref x] h (fun r h' => Z m code L (r.toList ++ st) h' P)) := by
  rw [Z_call (m' := M_Jxa1e45_init_da8c8) rfl rfl]
  exact ⟨fun q => ⟨q.1.2.1, q.2⟩, fun q => ⟨⟨Nat.le_add_left _ _, q.1, rfl⟩, q.2⟩⟩
theorem C_Jxa1e45_init_da8c8_n {x : Nat} : Z m ((pc, .invokespecial i, len, 126, b, 3) :: code) L (.ref x :: st) h P ↔ (st.length ≤ 8 ∧ Ev M_Jxa1e45_init_da8c8 [.ref x] h (fun r h' => Z m code L (r.toList ++ st) h' P)) := by
  rw [Z_call (m' := M_Jxa1e45_init_da8c8) rfl rfl]
  exact ⟨fun q => ⟨q.1.2.1, q.2⟩, fun q => ⟨⟨Nat.le_add_left _ _, q.1, rfl⟩, q.2⟩⟩
theorem E_Jxa1e45_init_da8c8 {v0 : Value} : Ev M_Jxa1e45_init_da8c8 [v0] h P ↔ Z M_Jxa1e45_init_da8c8 k_Jxa1e45_init_da8c8_0 [some v0] [] h P := Iff.rfl
theorem R_Jxa1e45_init_da8c8 : mR M_Jxa1e45_init_da8c8 = none := rfl
theorem C_Jxc12de_init_da8c8 {x : Nat} : Z m ((pc, .invokespecial i, len, 127, b, 1) :: code) L (.ref x :: st) h P ↔ (st.length ≤ 8 ∧ Ev M_Jxc12de_init_da8c8 [.ref x] h (fun r h' => Z m code L (r.toList ++ st) h' P)) := by
  rw [Z_call (m' := M_Jxc12de_init_da8c8) rfl rfl]
  exact ⟨fun q => ⟨q.1.2.1, q.2⟩, fun q => ⟨⟨Nat.le_add_left _ _, q.1, rfl⟩, q.2⟩⟩
theorem C_Jxc12de_init_da8c8_n {x : Nat} : Z m ((pc, .invokespecial i, len, 127, b, 3) :: code) L (.ref x :: st) h P ↔ (st.length ≤ 8 ∧ Ev M_Jxc12de_init_da8c8 [.ref x] h (fun r h' => Z m code L (r.toList ++ st) h' P)) := by
  rw [Z_call (m' := M_Jxc12de_init_da8c8) rfl rfl]
  exact ⟨fun q => ⟨q.1.2.1, q.2⟩, fun q => ⟨⟨Nat.le_add_left _ _, q.1, rfl⟩, q.2⟩⟩
theorem E_Jxc12de_init_da8c8 {v0 : Value} : Ev M_Jxc12de_init_da8c8 [v0] h P ↔ Z M_Jxc12de_init_da8c8 k_Jxc12de_init_da8c8_0 [some v0] [] h P := Iff.rfl
theorem R_Jxc12de_init_da8c8 : mR M_Jxc12de_init_da8c8 = none := rfl
theorem C_AL_init_da8c8 {x : Nat} : Z m ((pc, .invokespecial i, len, 128, b, 1) :: code) L (.ref x :: st) h P ↔ (st.length ≤ 8 ∧ Ev M_AL_init_da8c8 [.ref x] h (fun r h' => Z m code L (r.toList ++ st) h' P)) := by
  rw [Z_call (m' := M_AL_init_da8c8) rfl rfl]
  exact ⟨fun q => ⟨q.1.2.1, q.2⟩, fun q => ⟨⟨Nat.le_add_left _ _, q.1, rfl⟩, q.2⟩⟩
theorem C_AL_init_da8c8_n {x : Nat} : Z m ((pc, .invokespecial i, len, 128, b, 3) :: code) L (.ref x :: st) h P ↔ (st.length ≤ 8 ∧ Ev M_AL_init_da8c8 [.ref x] h (fun r h' => Z m code L (r.toList ++ st) h' P)) := by
  rw [Z_call (m' := M_AL_init_da8c8) rfl rfl]
  exact ⟨fun q => ⟨q.1.2.1, q.2⟩, fun q => ⟨⟨Nat.le_add_left _ _, q.1, rfl⟩, q.2⟩⟩
theorem E_AL_init_da8c8 {v0 : Value} : Ev M_AL_init_da8c8 [v0] h P ↔ Z M_AL_init_da8c8 k_AL_init_da8c8_0 [some v0] [] h P := Iff.rfl
theorem R_AL_init_da8c8 : mR M_AL_init_da8c8 = none := rfl
theorem C_AL_grow_92f84 {x : Nat} {v1 : Value} : Z m ((pc, .invokevirtual i, len, 129, b, 0) :: code) L (v1 :: .ref x :: st) h P ↔ ((st.length ≤ 8 ∧ kd h x = 11) ∧ Ev M_AL_grow_92f84 [.ref x, v1] h (fun r h' => Z m code L (r.toList ++ st) h' P)) := by
  rw [Z_call (m' := M_AL_grow_92f84) rfl rfl]
  exact ⟨fun q => ⟨⟨q.1.2.1, Nat.eq_of_beq_eq_true q.1.2.2⟩, q.2⟩, fun q => ⟨⟨Nat.le_add_left _ _, q.1.1, beq_of2 q.1.2⟩, q.2⟩⟩
theorem E_AL_grow_92f84 {v0 v1 : Value} : Ev M_AL_grow_92f84 [v0, v1] h P ↔ Z M_AL_grow_92f84 k_AL_grow_92f84_0 [some v0, some v1, none, none] [] h P := Iff.rfl
theorem R_AL_grow_92f84 : mR M_AL_grow_92f84 = (some (.array (.object "java/lang/Object"))) := rfl
theorem C_AL_grow_d5877 {x : Nat} : Z m ((pc, .invokevirtual i, len, 130, b, 0) :: code) L (.ref x :: st) h P ↔ ((st.length ≤ 8 ∧ kd h x = 11) ∧ Ev M_AL_grow_d5877 [.ref x] h (fun r h' => Z m code L (r.toList ++ st) h' P)) := by
  rw [Z_call (m' := M_AL_grow_d5877) rfl rfl]
  exact ⟨fun q => ⟨⟨q.1.2.1, Nat.eq_of_beq_eq_true q.1.2.2⟩, q.2⟩, fun q => ⟨⟨Nat.le_add_left _ _, q.1.1, beq_of2 q.1.2⟩, q.2⟩⟩
theorem E_AL_grow_d5877 {v0 : Value} : Ev M_AL_grow_d5877 [v0] h P ↔ Z M_AL_grow_d5877 k_AL_grow_d5877_0 [some v0] [] h P := Iff.rfl
theorem R_AL_grow_d5877 : mR M_AL_grow_d5877 = (some (.array (.object "java/lang/Object"))) := rfl
theorem C_AL_size_8abf5 {x : Nat} : Z m ((pc, .invokevirtual i, len, 131, b, 0) :: code) L (.ref x :: st) h P ↔ ((st.length ≤ 8 ∧ kd h x = 11) ∧ Ev M_AL_size_8abf5 [.ref x] h (fun r h' => Z m code L (r.toList ++ st) h' P)) := by
  rw [Z_call (m' := M_AL_size_8abf5) rfl rfl]
  exact ⟨fun q => ⟨⟨q.1.2.1, Nat.eq_of_beq_eq_true q.1.2.2⟩, q.2⟩, fun q => ⟨⟨Nat.le_add_left _ _, q.1.1, beq_of2 q.1.2⟩, q.2⟩⟩
theorem E_AL_size_8abf5 {v0 : Value} : Ev M_AL_size_8abf5 [v0] h P ↔ Z M_AL_size_8abf5 k_AL_size_8abf5_0 [some v0] [] h P := Iff.rfl
theorem R_AL_size_8abf5 : mR M_AL_size_8abf5 = (some .int) := rfl
theorem C_AL_isEmpty_aae02 {x : Nat} : Z m ((pc, .invokevirtual i, len, 132, b, 0) :: code) L (.ref x :: st) h P ↔ ((st.length ≤ 8 ∧ kd h x = 11) ∧ Ev M_AL_isEmpty_aae02 [.ref x] h (fun r h' => Z m code L (r.toList ++ st) h' P)) := by
  rw [Z_call (m' := M_AL_isEmpty_aae02) rfl rfl]
  exact ⟨fun q => ⟨⟨q.1.2.1, Nat.eq_of_beq_eq_true q.1.2.2⟩, q.2⟩, fun q => ⟨⟨Nat.le_add_left _ _, q.1.1, beq_of2 q.1.2⟩, q.2⟩⟩
theorem E_AL_isEmpty_aae02 {v0 : Value} : Ev M_AL_isEmpty_aae02 [v0] h P ↔ Z M_AL_isEmpty_aae02 k_AL_isEmpty_aae02_0 [some v0] [] h P := Iff.rfl
theorem R_AL_isEmpty_aae02 : mR M_AL_isEmpty_aae02 = (some .boolean) := rfl
theorem C_AL_elementData_915e3 {x : Nat} {v1 : Value} : Z m ((pc, .invokevirtual i, len, 133, b, 0) :: code) L (v1 :: .ref x :: st) h P ↔ ((st.length ≤ 8 ∧ kd h x = 11) ∧ Ev M_AL_elementData_915e3 [.ref x, v1] h (fun r h' => Z m code L (r.toList ++ st) h' P)) := by
  rw [Z_call (m' := M_AL_elementData_915e3) rfl rfl]
  exact ⟨fun q => ⟨⟨q.1.2.1, Nat.eq_of_beq_eq_true q.1.2.2⟩, q.2⟩, fun q => ⟨⟨Nat.le_add_left _ _, q.1.1, beq_of2 q.1.2⟩, q.2⟩⟩
theorem E_AL_elementData_915e3 {v0 v1 : Value} : Ev M_AL_elementData_915e3 [v0, v1] h P ↔ Z M_AL_elementData_915e3 k_AL_elementData_915e3_0 [some v0, some v1] [] h P := Iff.rfl
theorem R_AL_elementData_915e3 : mR M_AL_elementData_915e3 = (some (.object "java/lang/Object")) := rfl
theorem C_AL_get_915e3 {x : Nat} {v1 : Value} : Z m ((pc, .invokevirtual i, len, 134, b, 0) :: code) L (v1 :: .ref x :: st) h P ↔ ((st.length ≤ 8 ∧ kd h x = 11) ∧ Ev M_AL_get_915e3 [.ref x, v1] h (fun r h' => Z m code L (r.toList ++ st) h' P)) := by
  rw [Z_call (m' := M_AL_get_915e3) rfl rfl]
  exact ⟨fun q => ⟨⟨q.1.2.1, Nat.eq_of_beq_eq_true q.1.2.2⟩, q.2⟩, fun q => ⟨⟨Nat.le_add_left _ _, q.1.1, beq_of2 q.1.2⟩, q.2⟩⟩
theorem E_AL_get_915e3 {v0 v1 : Value} : Ev M_AL_get_915e3 [v0, v1] h P ↔ Z M_AL_get_915e3 k_AL_get_915e3_0 [some v0, some v1] [] h P := Iff.rfl
theorem R_AL_get_915e3 : mR M_AL_get_915e3 = (some (.object "java/lang/Object")) := rfl
theorem C_AL_add_72be8 {x : Nat} {v1 v2 v3 : Value} : Z m ((pc, .invokevirtual i, len, 135, b, 0) :: code) L (v3 :: v2 :: v1 :: .ref x :: st) h P ↔ ((st.length ≤ 8 ∧ kd h x = 11) ∧ Ev M_AL_add_72be8 [.ref x, v1, v2, v3] h (fun r h' => Z m code L (r.toList ++ st) h' P)) := by
  rw [Z_call (m' := M_AL_add_72be8) rfl rfl]
  exact ⟨fun q => ⟨⟨q.1.2.1, Nat.eq_of_beq_eq_true q.1.2.2⟩, q.2⟩, fun q => ⟨⟨Nat.le_add_left _ _, q.1.1, beq_of2 q.1.2⟩, q.2⟩⟩
theorem E_AL_add_72be8 {v0 v1 v2 v3 : Value} : Ev M_AL_add_72be8 [v0, v1, v2, v3] h P ↔ Z M_AL_add_72be8 k_AL_add_72be8_0 [some v0, some v1, some v2, some v3] [] h P := Iff.rfl
theorem R_AL_add_72be8 : mR M_AL_add_72be8 = none := rfl
theorem C_AL_add_9ea2d {x : Nat} {v1 : Value} : Z m ((pc, .invokevirtual i, len, 136, b, 0) :: code) L (v1 :: .ref x :: st) h P ↔ ((st.length ≤ 8 ∧ kd h x = 11) ∧ Ev M_AL_add_9ea2d [.ref x, v1] h (fun r h' => Z m code L (r.toList ++ st) h' P)) := by
  rw [Z_call (m' := M_AL_add_9ea2d) rfl rfl]
  exact ⟨fun q => ⟨⟨q.1.2.1, Nat.eq_of_beq_eq_true q.1.2.2⟩, q.2⟩, fun q => ⟨⟨Nat.le_add_left _ _, q.1.1, beq_of2 q.1.2⟩, q.2⟩⟩
theorem E_AL_add_9ea2d {v0 v1 : Value} : Ev M_AL_add_9ea2d [v0, v1] h P ↔ Z M_AL_add_9ea2d k_AL_add_9ea2d_0 [some v0, some v1] [] h P := Iff.rfl
theorem R_AL_add_9ea2d : mR M_AL_add_9ea2d = (some .boolean) := rfl
theorem C_AL_remove_915e3 {x : Nat} {v1 : Value} : Z m ((pc, .invokevirtual i, len, 137, b, 0) :: code) L (v1 :: .ref x :: st) h P ↔ ((st.length ≤ 8 ∧ kd h x = 11) ∧ Ev M_AL_remove_915e3 [.ref x, v1] h (fun r h' => Z m code L (r.toList ++ st) h' P)) := by
  rw [Z_call (m' := M_AL_remove_915e3) rfl rfl]
  exact ⟨fun q => ⟨⟨q.1.2.1, Nat.eq_of_beq_eq_true q.1.2.2⟩, q.2⟩, fun q => ⟨⟨Nat.le_add_left _ _, q.1.1, beq_of2 q.1.2⟩, q.2⟩⟩
theorem E_AL_remove_915e3 {v0 v1 : Value} : Ev M_AL_remove_915e3 [v0, v1] h P ↔ Z M_AL_remove_915e3 k_AL_remove_915e3_0 [some v0, some v1, none, none] [] h P := Iff.rfl
theorem R_AL_remove_915e3 : mR M_AL_remove_915e3 = (some (.object "java/lang/Object")) := rfl
theorem C_AL_fastRemove_b59b0 {x : Nat} {v1 v2 : Value} : Z m ((pc, .invokevirtual i, len, 138, b, 0) :: code) L (v2 :: v1 :: .ref x :: st) h P ↔ ((st.length ≤ 8 ∧ kd h x = 11) ∧ Ev M_AL_fastRemove_b59b0 [.ref x, v1, v2] h (fun r h' => Z m code L (r.toList ++ st) h' P)) := by
  rw [Z_call (m' := M_AL_fastRemove_b59b0) rfl rfl]
  exact ⟨fun q => ⟨⟨q.1.2.1, Nat.eq_of_beq_eq_true q.1.2.2⟩, q.2⟩, fun q => ⟨⟨Nat.le_add_left _ _, q.1.1, beq_of2 q.1.2⟩, q.2⟩⟩
theorem E_AL_fastRemove_b59b0 {v0 v1 v2 : Value} : Ev M_AL_fastRemove_b59b0 [v0, v1, v2] h P ↔ Z M_AL_fastRemove_b59b0 k_AL_fastRemove_b59b0_0 [some v0, some v1, some v2, none] [] h P := Iff.rfl
theorem R_AL_fastRemove_b59b0 : mR M_AL_fastRemove_b59b0 = none := rfl
theorem C_J7_copyOf_1904c {v0 v1 : Value} : Z m ((pc, .invokestatic i, len, 139, b, 2) :: code) L (v1 :: v0 :: st) h P ↔ (st.length ≤ 8 ∧ Ev M_J7_copyOf_1904c [v0, v1] h (fun r h' => Z m code L (r.toList ++ st) h' P)) := by
  rw [Z_call (m' := M_J7_copyOf_1904c) rfl rfl]
  exact ⟨fun q => ⟨q.1.2.1, q.2⟩, fun q => ⟨⟨Nat.le_add_left _ _, q.1, rfl⟩, q.2⟩⟩
theorem E_J7_copyOf_1904c {v0 v1 : Value} : Ev M_J7_copyOf_1904c [v0, v1] h P ↔ Z M_J7_copyOf_1904c k_J7_copyOf_1904c_0 [some v0, some v1] [] h P := Iff.rfl
theorem R_J7_copyOf_1904c : mR M_J7_copyOf_1904c = (some (.array (.object "java/lang/Object"))) := rfl
theorem C_J7_copyOf_6403c {v0 v1 v2 : Value} : Z m ((pc, .invokestatic i, len, 140, b, 2) :: code) L (v2 :: v1 :: v0 :: st) h P ↔ (st.length ≤ 8 ∧ Ev M_J7_copyOf_6403c [v0, v1, v2] h (fun r h' => Z m code L (r.toList ++ st) h' P)) := by
  rw [Z_call (m' := M_J7_copyOf_6403c) rfl rfl]
  exact ⟨fun q => ⟨q.1.2.1, q.2⟩, fun q => ⟨⟨Nat.le_add_left _ _, q.1, rfl⟩, q.2⟩⟩
theorem E_J7_copyOf_6403c {v0 v1 v2 : Value} : Ev M_J7_copyOf_6403c [v0, v1, v2] h P ↔ Z M_J7_copyOf_6403c k_J7_copyOf_6403c_0 [some v0, some v1, some v2, none] [] h P := Iff.rfl
theorem R_J7_copyOf_6403c : mR M_J7_copyOf_6403c = (some (.array (.object "java/lang/Object"))) := rfl
theorem C_J15_checkIndex_7cf53 {v0 v1 : Value} : Z m ((pc, .invokestatic i, len, 141, b, 2) :: code) L (v1 :: v0 :: st) h P ↔ (st.length ≤ 8 ∧ Ev M_J15_checkIndex_7cf53 [v0, v1] h (fun r h' => Z m code L (r.toList ++ st) h' P)) := by
  rw [Z_call (m' := M_J15_checkIndex_7cf53) rfl rfl]
  exact ⟨fun q => ⟨q.1.2.1, q.2⟩, fun q => ⟨⟨Nat.le_add_left _ _, q.1, rfl⟩, q.2⟩⟩
theorem E_J15_checkIndex_7cf53 {v0 v1 : Value} : Ev M_J15_checkIndex_7cf53 [v0, v1] h P ↔ Z M_J15_checkIndex_7cf53 k_J15_checkIndex_7cf53_0 [some v0, some v1] [] h P := Iff.rfl
theorem R_J15_checkIndex_7cf53 : mR M_J15_checkIndex_7cf53 = (some .int) := rfl
theorem C_J8_newLength_cabcc {v0 v1 v2 : Value} : Z m ((pc, .invokestatic i, len, 142, b, 2) :: code) L (v2 :: v1 :: v0 :: st) h P ↔ (st.length ≤ 8 ∧ Ev M_J8_newLength_cabcc [v0, v1, v2] h (fun r h' => Z m code L (r.toList ++ st) h' P)) := by
  rw [Z_call (m' := M_J8_newLength_cabcc) rfl rfl]
  exact ⟨fun q => ⟨q.1.2.1, q.2⟩, fun q => ⟨⟨Nat.le_add_left _ _, q.1, rfl⟩, q.2⟩⟩
theorem E_J8_newLength_cabcc {v0 v1 v2 : Value} : Ev M_J8_newLength_cabcc [v0, v1, v2] h P ↔ Z M_J8_newLength_cabcc k_J8_newLength_cabcc_0 [some v0, some v1, some v2, none] [] h P := Iff.rfl
theorem R_J8_newLength_cabcc : mR M_J8_newLength_cabcc = (some .int) := rfl
theorem C_J8_hugeLength_7cf53 {v0 v1 : Value} : Z m ((pc, .invokestatic i, len, 143, b, 2) :: code) L (v1 :: v0 :: st) h P ↔ (st.length ≤ 8 ∧ Ev M_J8_hugeLength_7cf53 [v0, v1] h (fun r h' => Z m code L (r.toList ++ st) h' P)) := by
  rw [Z_call (m' := M_J8_hugeLength_7cf53) rfl rfl]
  exact ⟨fun q => ⟨q.1.2.1, q.2⟩, fun q => ⟨⟨Nat.le_add_left _ _, q.1, rfl⟩, q.2⟩⟩
theorem E_J8_hugeLength_7cf53 {v0 v1 : Value} : Ev M_J8_hugeLength_7cf53 [v0, v1] h P ↔ Z M_J8_hugeLength_7cf53 k_J8_hugeLength_7cf53_0 [some v0, some v1, none] [] h P := Iff.rfl
theorem R_J8_hugeLength_7cf53 : mR M_J8_hugeLength_7cf53 = (some .int) := rfl
theorem C_J3_checkIndex_8e157 {v0 v1 v2 : Value} : Z m ((pc, .invokestatic i, len, 144, b, 2) :: code) L (v2 :: v1 :: v0 :: st) h P ↔ (st.length ≤ 8 ∧ Ev M_J3_checkIndex_8e157 [v0, v1, v2] h (fun r h' => Z m code L (r.toList ++ st) h' P)) := by
  rw [Z_call (m' := M_J3_checkIndex_8e157) rfl rfl]
  exact ⟨fun q => ⟨q.1.2.1, q.2⟩, fun q => ⟨⟨Nat.le_add_left _ _, q.1, rfl⟩, q.2⟩⟩
theorem E_J3_checkIndex_8e157 {v0 v1 v2 : Value} : Ev M_J3_checkIndex_8e157 [v0, v1, v2] h P ↔ Z M_J3_checkIndex_8e157 k_J3_checkIndex_8e157_0 [some v0, some v1, some v2] [] h P := Iff.rfl
theorem R_J3_checkIndex_8e157 : mR M_J3_checkIndex_8e157 = (some .int) := rfl
theorem Q_X0_init {a : Nat}  : Z M_X0_init ((pc, .return_, len, a, b, 0) :: code) L [] h P ↔ P none h := Z_ret rfl
theorem Q_X1_init {a : Nat}  : Z M_X1_init ((pc, .return_, len, a, b, 0) :: code) L [] h P ↔ P none h := Z_ret rfl
theorem Q_X1_covers_0 {a : Nat}  : Z M_X1_covers ((pc, .ireturn, len, a, b, 0) :: code) L [.int (nI 0)] h P ↔ P (some (.int (nI 0))) h := Z_zret rfl (Or.inl rfl)
theorem Q_X1_covers_1 {a : Nat}  : Z M_X1_covers ((pc, .ireturn, len, a, b, 0) :: code) L [.int (nI 1)] h P ↔ P (some (.int (nI 1))) h := Z_zret rfl (Or.inr rfl)
theorem Q_X1_raiseTo {a : Nat}  : Z M_X1_raiseTo ((pc, .return_, len, a, b, 0) :: code) L [] h P ↔ P none h := Z_ret rfl
theorem Q_X2_init {a : Nat}  : Z M_X2_init ((pc, .return_, len, a, b, 0) :: code) L [] h P ↔ P none h := Z_ret rfl
theorem Q_X3_init {a : Nat}  : Z M_X3_init ((pc, .return_, len, a, b, 0) :: code) L [] h P ↔ P none h := Z_ret rfl
theorem Q_X3_init_ {a : Nat}  : Z M_X3_init_ ((pc, .return_, len, a, b, 0) :: code) L [] h P ↔ P none h := Z_ret rfl
theorem Q_X4_init {a : Nat}  : Z M_X4_init ((pc, .return_, len, a, b, 0) :: code) L [] h P ↔ P none h := Z_ret rfl
theorem Q_X4_hasGreaterMarkThan_0 {a : Nat}  : Z M_X4_hasGreaterMarkThan ((pc, .ireturn, len, a, b, 0) :: code) L [.int (nI 0)] h P ↔ P (some (.int (nI 0))) h := Z_zret rfl (Or.inl rfl)
theorem Q_X4_hasGreaterMarkThan_1 {a : Nat}  : Z M_X4_hasGreaterMarkThan ((pc, .ireturn, len, a, b, 0) :: code) L [.int (nI 1)] h P ↔ P (some (.int (nI 1))) h := Z_zret rfl (Or.inr rfl)
theorem Q_X4_isOfSameElementAs_0 {a : Nat}  : Z M_X4_isOfSameElementAs ((pc, .ireturn, len, a, b, 0) :: code) L [.int (nI 0)] h P ↔ P (some (.int (nI 0))) h := Z_zret rfl (Or.inl rfl)
theorem Q_X4_isOfSameElementAs_1 {a : Nat}  : Z M_X4_isOfSameElementAs ((pc, .ireturn, len, a, b, 0) :: code) L [.int (nI 1)] h P ↔ P (some (.int (nI 1))) h := Z_zret rfl (Or.inr rfl)
theorem Q_X5_init {a : Nat}  : Z M_X5_init ((pc, .return_, len, a, b, 0) :: code) L [] h P ↔ P none h := Z_ret rfl
theorem Q_X5_hasMostOperations_0 {a : Nat}  : Z M_X5_hasMostOperations ((pc, .ireturn, len, a, b, 0) :: code) L [.int (nI 0)] h P ↔ P (some (.int (nI 0))) h := Z_zret rfl (Or.inl rfl)
theorem Q_X5_hasMostOperations_1 {a : Nat}  : Z M_X5_hasMostOperations ((pc, .ireturn, len, a, b, 0) :: code) L [.int (nI 1)] h P ↔ P (some (.int (nI 1))) h := Z_zret rfl (Or.inr rfl)
theorem Q_X5_ownClock_r {a : Nat} {x : Nat} : Z M_X5_ownClock ((pc, .areturn, len, a, b, 0) :: code) L [.ref x] h P ↔ P (some (.ref x)) h := Z_aret rfl
theorem Q_X5_ownClock_q {a : Nat} {x : Option Nat} : Z M_X5_ownClock ((pc, .areturn, len, a, b, 0) :: code) L [va_rf x] h P ↔ P (some (va_rf x)) h := Z_aretq rfl
theorem Q_X5_ownClock_n {a : Nat}  : Z M_X5_ownClock ((pc, .areturn, len, a, b, 0) :: code) L [.null] h P ↔ P (some .null) h := Z_aretn rfl
theorem Q_X5_elementBits {a : Nat} {x : Int32} : Z M_X5_elementBits ((pc, .ireturn, len, a, b, 0) :: code) L [.int x] h P ↔ P (some (.int x)) h := Z_iret rfl
theorem Q_X5_begin_r {a : Nat} {x : Nat} : Z M_X5_begin ((pc, .areturn, len, a, b, 0) :: code) L [.ref x] h P ↔ P (some (.ref x)) h := Z_aret rfl
theorem Q_X5_begin_q {a : Nat} {x : Option Nat} : Z M_X5_begin ((pc, .areturn, len, a, b, 0) :: code) L [va_rf x] h P ↔ P (some (va_rf x)) h := Z_aretq rfl
theorem Q_X5_begin_n {a : Nat}  : Z M_X5_begin ((pc, .areturn, len, a, b, 0) :: code) L [.null] h P ↔ P (some .null) h := Z_aretn rfl
theorem Q_X5_receive {a : Nat} {x : Int32} : Z M_X5_receive ((pc, .ireturn, len, a, b, 0) :: code) L [.int x] h P ↔ P (some (.int x)) h := Z_iret rfl
theorem Q_X5_isWaiting_0 {a : Nat}  : Z M_X5_isWaiting ((pc, .ireturn, len, a, b, 0) :: code) L [.int (nI 0)] h P ↔ P (some (.int (nI 0))) h := Z_zret rfl (Or.inl rfl)
theorem Q_X5_isWaiting_1 {a : Nat}  : Z M_X5_isWaiting ((pc, .ireturn, len, a, b, 0) :: code) L [.int (nI 1)] h P ↔ P (some (.int (nI 1))) h := Z_zret rfl (Or.inr rfl)
theorem Q_X5_finishWaiting {a : Nat} {x : Int32} : Z M_X5_finishWaiting ((pc, .ireturn, len, a, b, 0) :: code) L [.int x] h P ↔ P (some (.int x)) h := Z_iret rfl
theorem Q_X5_firstReady {a : Nat} {x : Int32} : Z M_X5_firstReady ((pc, .ireturn, len, a, b, 0) :: code) L [.int x] h P ↔ P (some (.int x)) h := Z_iret rfl
theorem Q_X5_isReady_0 {a : Nat}  : Z M_X5_isReady ((pc, .ireturn, len, a, b, 0) :: code) L [.int (nI 0)] h P ↔ P (some (.int (nI 0))) h := Z_zret rfl (Or.inl rfl)
theorem Q_X5_isReady_1 {a : Nat}  : Z M_X5_isReady ((pc, .ireturn, len, a, b, 0) :: code) L [.int (nI 1)] h P ↔ P (some (.int (nI 1))) h := Z_zret rfl (Or.inr rfl)
theorem Q_X5_finish {a : Nat}  : Z M_X5_finish ((pc, .return_, len, a, b, 0) :: code) L [] h P ↔ P none h := Z_ret rfl
theorem Q_X5_apply {a : Nat}  : Z M_X5_apply ((pc, .return_, len, a, b, 0) :: code) L [] h P ↔ P none h := Z_ret rfl
theorem Q_X5_dropPutsBefore {a : Nat}  : Z M_X5_dropPutsBefore ((pc, .return_, len, a, b, 0) :: code) L [] h P ↔ P none h := Z_ret rfl
theorem Q_X5_keepGreaterMark {a : Nat}  : Z M_X5_keepGreaterMark ((pc, .return_, len, a, b, 0) :: code) L [] h P ↔ P none h := Z_ret rfl
theorem Q_X5_isDoneEverywhere_0 {a : Nat}  : Z M_X5_isDoneEverywhere ((pc, .ireturn, len, a, b, 0) :: code) L [.int (nI 0)] h P ↔ P (some (.int (nI 0))) h := Z_zret rfl (Or.inl rfl)
theorem Q_X5_isDoneEverywhere_1 {a : Nat}  : Z M_X5_isDoneEverywhere ((pc, .ireturn, len, a, b, 0) :: code) L [.int (nI 1)] h P ↔ P (some (.int (nI 1))) h := Z_zret rfl (Or.inr rfl)
theorem Q_X5_shortenLog {a : Nat}  : Z M_X5_shortenLog ((pc, .return_, len, a, b, 0) :: code) L [] h P ↔ P none h := Z_ret rfl
theorem Q_X6_init {a : Nat}  : Z M_X6_init ((pc, .return_, len, a, b, 0) :: code) L [] h P ↔ P none h := Z_ret rfl
theorem Q_X6_lettersEver {a : Nat} {x : Int32} : Z M_X6_lettersEver ((pc, .ireturn, len, a, b, 0) :: code) L [.int x] h P ↔ P (some (.int x)) h := Z_iret rfl
theorem Q_X6_lettersThere {a : Nat} {x : Int32} : Z M_X6_lettersThere ((pc, .ireturn, len, a, b, 0) :: code) L [.int x] h P ↔ P (some (.int x)) h := Z_iret rfl
theorem Q_X6_letterAt_r {a : Nat} {x : Nat} : Z M_X6_letterAt ((pc, .areturn, len, a, b, 0) :: code) L [.ref x] h P ↔ P (some (.ref x)) h := Z_aret rfl
theorem Q_X6_letterAt_q {a : Nat} {x : Option Nat} : Z M_X6_letterAt ((pc, .areturn, len, a, b, 0) :: code) L [va_rf x] h P ↔ P (some (va_rf x)) h := Z_aretq rfl
theorem Q_X6_letterAt_n {a : Nat}  : Z M_X6_letterAt ((pc, .areturn, len, a, b, 0) :: code) L [.null] h P ↔ P (some .null) h := Z_aretn rfl
theorem Q_X6_bringIn {a : Nat}  : Z M_X6_bringIn ((pc, .return_, len, a, b, 0) :: code) L [] h P ↔ P none h := Z_ret rfl
theorem Q_X6_bringOut {a : Nat}  : Z M_X6_bringOut ((pc, .return_, len, a, b, 0) :: code) L [] h P ↔ P none h := Z_ret rfl
theorem Q_X6_letterOf_r {a : Nat} {x : Nat} : Z M_X6_letterOf ((pc, .areturn, len, a, b, 0) :: code) L [.ref x] h P ↔ P (some (.ref x)) h := Z_aret rfl
theorem Q_X6_letterOf_q {a : Nat} {x : Option Nat} : Z M_X6_letterOf ((pc, .areturn, len, a, b, 0) :: code) L [va_rf x] h P ↔ P (some (va_rf x)) h := Z_aretq rfl
theorem Q_X6_letterOf_n {a : Nat}  : Z M_X6_letterOf ((pc, .areturn, len, a, b, 0) :: code) L [.null] h P ↔ P (some .null) h := Z_aretn rfl
theorem Q_X7_init {a : Nat}  : Z M_X7_init ((pc, .return_, len, a, b, 0) :: code) L [] h P ↔ P none h := Z_ret rfl
theorem Q_X7_isFull_0 {a : Nat}  : Z M_X7_isFull ((pc, .ireturn, len, a, b, 0) :: code) L [.int (nI 0)] h P ↔ P (some (.int (nI 0))) h := Z_zret rfl (Or.inl rfl)
theorem Q_X7_isFull_1 {a : Nat}  : Z M_X7_isFull ((pc, .ireturn, len, a, b, 0) :: code) L [.int (nI 1)] h P ↔ P (some (.int (nI 1))) h := Z_zret rfl (Or.inr rfl)
theorem Q_X7_send {a : Nat}  : Z M_X7_send ((pc, .return_, len, a, b, 0) :: code) L [] h P ↔ P none h := Z_ret rfl
theorem Q_X8_init {a : Nat}  : Z M_X8_init ((pc, .return_, len, a, b, 0) :: code) L [] h P ↔ P none h := Z_ret rfl
theorem Q_X8_add {a : Nat} {x : Int32} : Z M_X8_add ((pc, .ireturn, len, a, b, 0) :: code) L [.int x] h P ↔ P (some (.int x)) h := Z_iret rfl
theorem Q_X8_put {a : Nat} {x : Int32} : Z M_X8_put ((pc, .ireturn, len, a, b, 0) :: code) L [.int x] h P ↔ P (some (.int x)) h := Z_iret rfl
theorem Q_X8_take {a : Nat} {x : Int32} : Z M_X8_take ((pc, .ireturn, len, a, b, 0) :: code) L [.int x] h P ↔ P (some (.int x)) h := Z_iret rfl
theorem Q_X8_write {a : Nat} {x : Int32} : Z M_X8_write ((pc, .ireturn, len, a, b, 0) :: code) L [.int x] h P ↔ P (some (.int x)) h := Z_iret rfl
theorem Q_X8_insert {a : Nat} {x : Int32} : Z M_X8_insert ((pc, .ireturn, len, a, b, 0) :: code) L [.int x] h P ↔ P (some (.int x)) h := Z_iret rfl
theorem Q_X8_remove {a : Nat} {x : Int32} : Z M_X8_remove ((pc, .ireturn, len, a, b, 0) :: code) L [.int x] h P ↔ P (some (.int x)) h := Z_iret rfl
theorem Q_X8_deliver {a : Nat} {x : Int32} : Z M_X8_deliver ((pc, .ireturn, len, a, b, 0) :: code) L [.int x] h P ↔ P (some (.int x)) h := Z_iret rfl
theorem Q_X8_copy {a : Nat} {x : Int32} : Z M_X8_copy ((pc, .ireturn, len, a, b, 0) :: code) L [.int x] h P ↔ P (some (.int x)) h := Z_iret rfl
theorem Q_X8_lose {a : Nat} {x : Int32} : Z M_X8_lose ((pc, .ireturn, len, a, b, 0) :: code) L [.int x] h P ↔ P (some (.int x)) h := Z_iret rfl
theorem Q_X8_ask {a : Nat} {x : Int32} : Z M_X8_ask ((pc, .ireturn, len, a, b, 0) :: code) L [.int x] h P ↔ P (some (.int x)) h := Z_iret rfl
theorem Q_X8_tell {a : Nat} {x : Int32} : Z M_X8_tell ((pc, .ireturn, len, a, b, 0) :: code) L [.int x] h P ↔ P (some (.int x)) h := Z_iret rfl
theorem Q_X8_power {a : Nat} {x : Int32} : Z M_X8_power ((pc, .ireturn, len, a, b, 0) :: code) L [.int x] h P ↔ P (some (.int x)) h := Z_iret rfl
theorem Q_X8_counter {a : Nat} {x : Int32} : Z M_X8_counter ((pc, .ireturn, len, a, b, 0) :: code) L [.int x] h P ↔ P (some (.int x)) h := Z_iret rfl
theorem Q_X8_has {a : Nat} {x : Int32} : Z M_X8_has ((pc, .ireturn, len, a, b, 0) :: code) L [.int x] h P ↔ P (some (.int x)) h := Z_iret rfl
theorem Q_X8_size {a : Nat} {x : Int32} : Z M_X8_size ((pc, .ireturn, len, a, b, 0) :: code) L [.int x] h P ↔ P (some (.int x)) h := Z_iret rfl
theorem Q_X8_register {a : Nat} {x : Int32} : Z M_X8_register ((pc, .ireturn, len, a, b, 0) :: code) L [.int x] h P ↔ P (some (.int x)) h := Z_iret rfl
theorem Q_X8_length {a : Nat} {x : Int32} : Z M_X8_length ((pc, .ireturn, len, a, b, 0) :: code) L [.int x] h P ↔ P (some (.int x)) h := Z_iret rfl
theorem Q_X8_character {a : Nat} {x : Int32} : Z M_X8_character ((pc, .ireturn, len, a, b, 0) :: code) L [.int x] h P ↔ P (some (.int x)) h := Z_iret rfl
theorem Q_X8_clock {a : Nat} {x : Int32} : Z M_X8_clock ((pc, .ireturn, len, a, b, 0) :: code) L [.int x] h P ↔ P (some (.int x)) h := Z_iret rfl
theorem Q_X8_knows {a : Nat} {x : Int32} : Z M_X8_knows ((pc, .ireturn, len, a, b, 0) :: code) L [.int x] h P ↔ P (some (.int x)) h := Z_iret rfl
theorem Q_X8_count {a : Nat} {x : Int32} : Z M_X8_count ((pc, .ireturn, len, a, b, 0) :: code) L [.int x] h P ↔ P (some (.int x)) h := Z_iret rfl
theorem Q_X8_message {a : Nat} {x : Int32} : Z M_X8_message ((pc, .ireturn, len, a, b, 0) :: code) L [.int x] h P ↔ P (some (.int x)) h := Z_iret rfl
theorem Q_X8_way {a : Nat} {x : Int32} : Z M_X8_way ((pc, .ireturn, len, a, b, 0) :: code) L [.int x] h P ↔ P (some (.int x)) h := Z_iret rfl
theorem Q_X8_isReplica_0 {a : Nat}  : Z M_X8_isReplica ((pc, .ireturn, len, a, b, 0) :: code) L [.int (nI 0)] h P ↔ P (some (.int (nI 0))) h := Z_zret rfl (Or.inl rfl)
theorem Q_X8_isReplica_1 {a : Nat}  : Z M_X8_isReplica ((pc, .ireturn, len, a, b, 0) :: code) L [.int (nI 1)] h P ↔ P (some (.int (nI 1))) h := Z_zret rfl (Or.inr rfl)
theorem Q_X8_isOfPair_0 {a : Nat}  : Z M_X8_isOfPair ((pc, .ireturn, len, a, b, 0) :: code) L [.int (nI 0)] h P ↔ P (some (.int (nI 0))) h := Z_zret rfl (Or.inl rfl)
theorem Q_X8_isOfPair_1 {a : Nat}  : Z M_X8_isOfPair ((pc, .ireturn, len, a, b, 0) :: code) L [.int (nI 1)] h P ↔ P (some (.int (nI 1))) h := Z_zret rfl (Or.inr rfl)
theorem Q_X8_isElement_0 {a : Nat}  : Z M_X8_isElement ((pc, .ireturn, len, a, b, 0) :: code) L [.int (nI 0)] h P ↔ P (some (.int (nI 0))) h := Z_zret rfl (Or.inl rfl)
theorem Q_X8_isElement_1 {a : Nat}  : Z M_X8_isElement ((pc, .ireturn, len, a, b, 0) :: code) L [.int (nI 1)] h P ↔ P (some (.int (nI 1))) h := Z_zret rfl (Or.inr rfl)
theorem Q_X8_isCharacter_0 {a : Nat}  : Z M_X8_isCharacter ((pc, .ireturn, len, a, b, 0) :: code) L [.int (nI 0)] h P ↔ P (some (.int (nI 0))) h := Z_zret rfl (Or.inl rfl)
theorem Q_X8_isCharacter_1 {a : Nat}  : Z M_X8_isCharacter ((pc, .ireturn, len, a, b, 0) :: code) L [.int (nI 1)] h P ↔ P (some (.int (nI 1))) h := Z_zret rfl (Or.inr rfl)
theorem Q_X8_isWay_0 {a : Nat}  : Z M_X8_isWay ((pc, .ireturn, len, a, b, 0) :: code) L [.int (nI 0)] h P ↔ P (some (.int (nI 0))) h := Z_zret rfl (Or.inl rfl)
theorem Q_X8_isWay_1 {a : Nat}  : Z M_X8_isWay ((pc, .ireturn, len, a, b, 0) :: code) L [.int (nI 1)] h P ↔ P (some (.int (nI 1))) h := Z_zret rfl (Or.inr rfl)
theorem Q_X8_oneIf {a : Nat} {x : Int32} : Z M_X8_oneIf ((pc, .ireturn, len, a, b, 0) :: code) L [.int x] h P ↔ P (some (.int x)) h := Z_iret rfl
theorem Q_X8_isOnWay_0 {a : Nat}  : Z M_X8_isOnWay ((pc, .ireturn, len, a, b, 0) :: code) L [.int (nI 0)] h P ↔ P (some (.int (nI 0))) h := Z_zret rfl (Or.inl rfl)
theorem Q_X8_isOnWay_1 {a : Nat}  : Z M_X8_isOnWay ((pc, .ireturn, len, a, b, 0) :: code) L [.int (nI 1)] h P ↔ P (some (.int (nI 1))) h := Z_zret rfl (Or.inr rfl)
theorem Q_X8_wayBetween_r {a : Nat} {x : Nat} : Z M_X8_wayBetween ((pc, .areturn, len, a, b, 0) :: code) L [.ref x] h P ↔ P (some (.ref x)) h := Z_aret rfl
theorem Q_X8_wayBetween_q {a : Nat} {x : Option Nat} : Z M_X8_wayBetween ((pc, .areturn, len, a, b, 0) :: code) L [va_rf x] h P ↔ P (some (va_rf x)) h := Z_aretq rfl
theorem Q_X8_wayBetween_n {a : Nat}  : Z M_X8_wayBetween ((pc, .areturn, len, a, b, 0) :: code) L [.null] h P ↔ P (some .null) h := Z_aretn rfl
theorem Q_X8_operate {a : Nat} {x : Int32} : Z M_X8_operate ((pc, .ireturn, len, a, b, 0) :: code) L [.int x] h P ↔ P (some (.int x)) h := Z_iret rfl
theorem Q_X8_sendClock {a : Nat} {x : Int32} : Z M_X8_sendClock ((pc, .ireturn, len, a, b, 0) :: code) L [.int x] h P ↔ P (some (.int x)) h := Z_iret rfl
theorem Q_X8_answer {a : Nat}  : Z M_X8_answer ((pc, .return_, len, a, b, 0) :: code) L [] h P ↔ P none h := Z_ret rfl
theorem Q_X9_init {a : Nat}  : Z M_X9_init ((pc, .return_, len, a, b, 0) :: code) L [] h P ↔ P none h := Z_ret rfl
theorem Q_X9_in_0 {a : Nat}  : Z M_X9_in ((pc, .ireturn, len, a, b, 0) :: code) L [.int (nI 0)] h P ↔ P (some (.int (nI 0))) h := Z_zret rfl (Or.inl rfl)
theorem Q_X9_in_1 {a : Nat}  : Z M_X9_in ((pc, .ireturn, len, a, b, 0) :: code) L [.int (nI 1)] h P ↔ P (some (.int (nI 1))) h := Z_zret rfl (Or.inr rfl)
theorem Q_X9_isReplica_0 {a : Nat}  : Z M_X9_isReplica ((pc, .ireturn, len, a, b, 0) :: code) L [.int (nI 0)] h P ↔ P (some (.int (nI 0))) h := Z_zret rfl (Or.inl rfl)
theorem Q_X9_isReplica_1 {a : Nat}  : Z M_X9_isReplica ((pc, .ireturn, len, a, b, 0) :: code) L [.int (nI 1)] h P ↔ P (some (.int (nI 1))) h := Z_zret rfl (Or.inr rfl)
theorem Q_X9_isTwo_0 {a : Nat}  : Z M_X9_isTwo ((pc, .ireturn, len, a, b, 0) :: code) L [.int (nI 0)] h P ↔ P (some (.int (nI 0))) h := Z_zret rfl (Or.inl rfl)
theorem Q_X9_isTwo_1 {a : Nat}  : Z M_X9_isTwo ((pc, .ireturn, len, a, b, 0) :: code) L [.int (nI 1)] h P ↔ P (some (.int (nI 1))) h := Z_zret rfl (Or.inr rfl)
theorem Q_X9_ownerOf {a : Nat} {x : Int32} : Z M_X9_ownerOf ((pc, .ireturn, len, a, b, 0) :: code) L [.int x] h P ↔ P (some (.int x)) h := Z_iret rfl
theorem Q_X9_numberOf {a : Nat} {x : Int32} : Z M_X9_numberOf ((pc, .ireturn, len, a, b, 0) :: code) L [.int x] h P ↔ P (some (.int x)) h := Z_iret rfl
theorem Q_X9_isBefore_0 {a : Nat}  : Z M_X9_isBefore ((pc, .ireturn, len, a, b, 0) :: code) L [.int (nI 0)] h P ↔ P (some (.int (nI 0))) h := Z_zret rfl (Or.inl rfl)
theorem Q_X9_isBefore_1 {a : Nat}  : Z M_X9_isBefore ((pc, .ireturn, len, a, b, 0) :: code) L [.int (nI 1)] h P ↔ P (some (.int (nI 1))) h := Z_zret rfl (Or.inr rfl)
theorem Q_X9_hasGreaterMark_0 {a : Nat}  : Z M_X9_hasGreaterMark ((pc, .ireturn, len, a, b, 0) :: code) L [.int (nI 0)] h P ↔ P (some (.int (nI 0))) h := Z_zret rfl (Or.inl rfl)
theorem Q_X9_hasGreaterMark_1 {a : Nat}  : Z M_X9_hasGreaterMark ((pc, .ireturn, len, a, b, 0) :: code) L [.int (nI 1)] h P ↔ P (some (.int (nI 1))) h := Z_zret rfl (Or.inr rfl)
theorem Q_X9_was_0 {a : Nat}  : Z M_X9_was ((pc, .ireturn, len, a, b, 0) :: code) L [.int (nI 0)] h P ↔ P (some (.int (nI 0))) h := Z_zret rfl (Or.inl rfl)
theorem Q_X9_was_1 {a : Nat}  : Z M_X9_was ((pc, .ireturn, len, a, b, 0) :: code) L [.int (nI 1)] h P ↔ P (some (.int (nI 1))) h := Z_zret rfl (Or.inr rfl)
theorem Q_X9_doOperation {a : Nat}  : Z M_X9_doOperation ((pc, .return_, len, a, b, 0) :: code) L [] h P ↔ P none h := Z_ret rfl
theorem Q_X9_newOperation {a : Nat} {x : Int32} : Z M_X9_newOperation ((pc, .ireturn, len, a, b, 0) :: code) L [.int x] h P ↔ P (some (.int x)) h := Z_iret rfl
theorem Q_X9_add {a : Nat} {x : Int32} : Z M_X9_add ((pc, .ireturn, len, a, b, 0) :: code) L [.int x] h P ↔ P (some (.int x)) h := Z_iret rfl
theorem Q_X9_isElement_0 {a : Nat}  : Z M_X9_isElement ((pc, .ireturn, len, a, b, 0) :: code) L [.int (nI 0)] h P ↔ P (some (.int (nI 0))) h := Z_zret rfl (Or.inl rfl)
theorem Q_X9_isElement_1 {a : Nat}  : Z M_X9_isElement ((pc, .ireturn, len, a, b, 0) :: code) L [.int (nI 1)] h P ↔ P (some (.int (nI 1))) h := Z_zret rfl (Or.inr rfl)
theorem Q_X9_put {a : Nat} {x : Int32} : Z M_X9_put ((pc, .ireturn, len, a, b, 0) :: code) L [.int x] h P ↔ P (some (.int x)) h := Z_iret rfl
theorem Q_X9_take {a : Nat} {x : Int32} : Z M_X9_take ((pc, .ireturn, len, a, b, 0) :: code) L [.int x] h P ↔ P (some (.int x)) h := Z_iret rfl
theorem Q_X9_write {a : Nat} {x : Int32} : Z M_X9_write ((pc, .ireturn, len, a, b, 0) :: code) L [.int x] h P ↔ P (some (.int x)) h := Z_iret rfl
theorem Q_X9_insert {a : Nat} {x : Int32} : Z M_X9_insert ((pc, .ireturn, len, a, b, 0) :: code) L [.int x] h P ↔ P (some (.int x)) h := Z_iret rfl
theorem Q_X9_remove {a : Nat} {x : Int32} : Z M_X9_remove ((pc, .ireturn, len, a, b, 0) :: code) L [.int x] h P ↔ P (some (.int x)) h := Z_iret rfl
theorem Q_X9_counter {a : Nat} {x : Int32} : Z M_X9_counter ((pc, .ireturn, len, a, b, 0) :: code) L [.int x] h P ↔ P (some (.int x)) h := Z_iret rfl
theorem Q_X9_isTaken_0 {a : Nat}  : Z M_X9_isTaken ((pc, .ireturn, len, a, b, 0) :: code) L [.int (nI 0)] h P ↔ P (some (.int (nI 0))) h := Z_zret rfl (Or.inl rfl)
theorem Q_X9_isTaken_1 {a : Nat}  : Z M_X9_isTaken ((pc, .ireturn, len, a, b, 0) :: code) L [.int (nI 1)] h P ↔ P (some (.int (nI 1))) h := Z_zret rfl (Or.inr rfl)
theorem Q_X9_has {a : Nat} {x : Int32} : Z M_X9_has ((pc, .ireturn, len, a, b, 0) :: code) L [.int x] h P ↔ P (some (.int x)) h := Z_iret rfl
theorem Q_X9_size {a : Nat} {x : Int32} : Z M_X9_size ((pc, .ireturn, len, a, b, 0) :: code) L [.int x] h P ↔ P (some (.int x)) h := Z_iret rfl
theorem Q_X9_register {a : Nat} {x : Int32} : Z M_X9_register ((pc, .ireturn, len, a, b, 0) :: code) L [.int x] h P ↔ P (some (.int x)) h := Z_iret rfl
theorem Q_X9_isRemoved_0 {a : Nat}  : Z M_X9_isRemoved ((pc, .ireturn, len, a, b, 0) :: code) L [.int (nI 0)] h P ↔ P (some (.int (nI 0))) h := Z_zret rfl (Or.inl rfl)
theorem Q_X9_isRemoved_1 {a : Nat}  : Z M_X9_isRemoved ((pc, .ireturn, len, a, b, 0) :: code) L [.int (nI 1)] h P ↔ P (some (.int (nI 1))) h := Z_zret rfl (Or.inr rfl)
theorem Q_X9_pileUp {a : Nat} {x : Int32} : Z M_X9_pileUp ((pc, .ireturn, len, a, b, 0) :: code) L [.int x] h P ↔ P (some (.int x)) h := Z_iret rfl
theorem Q_X9_lay {a : Nat}  : Z M_X9_lay ((pc, .return_, len, a, b, 0) :: code) L [] h P ↔ P none h := Z_ret rfl
theorem Q_X9_length {a : Nat} {x : Int32} : Z M_X9_length ((pc, .ireturn, len, a, b, 0) :: code) L [.int x] h P ↔ P (some (.int x)) h := Z_iret rfl
theorem Q_X9_character {a : Nat} {x : Int32} : Z M_X9_character ((pc, .ireturn, len, a, b, 0) :: code) L [.int x] h P ↔ P (some (.int x)) h := Z_iret rfl
theorem Q_X9_isWay_0 {a : Nat}  : Z M_X9_isWay ((pc, .ireturn, len, a, b, 0) :: code) L [.int (nI 0)] h P ↔ P (some (.int (nI 0))) h := Z_zret rfl (Or.inl rfl)
theorem Q_X9_isWay_1 {a : Nat}  : Z M_X9_isWay ((pc, .ireturn, len, a, b, 0) :: code) L [.int (nI 1)] h P ↔ P (some (.int (nI 1))) h := Z_zret rfl (Or.inr rfl)
theorem Q_X9_isMessage_0 {a : Nat}  : Z M_X9_isMessage ((pc, .ireturn, len, a, b, 0) :: code) L [.int (nI 0)] h P ↔ P (some (.int (nI 0))) h := Z_zret rfl (Or.inl rfl)
theorem Q_X9_isMessage_1 {a : Nat}  : Z M_X9_isMessage ((pc, .ireturn, len, a, b, 0) :: code) L [.int (nI 1)] h P ↔ P (some (.int (nI 1))) h := Z_zret rfl (Or.inr rfl)
theorem Q_X9_send {a : Nat}  : Z M_X9_send ((pc, .return_, len, a, b, 0) :: code) L [] h P ↔ P none h := Z_ret rfl
theorem Q_X9_sendOperation {a : Nat}  : Z M_X9_sendOperation ((pc, .return_, len, a, b, 0) :: code) L [] h P ↔ P none h := Z_ret rfl
theorem Q_X9_moveMessage {a : Nat}  : Z M_X9_moveMessage ((pc, .return_, len, a, b, 0) :: code) L [] h P ↔ P none h := Z_ret rfl
theorem Q_X9_drop {a : Nat}  : Z M_X9_drop ((pc, .return_, len, a, b, 0) :: code) L [] h P ↔ P none h := Z_ret rfl
theorem Q_X9_knowsOf {a : Nat} {x : Int32} : Z M_X9_knowsOf ((pc, .ireturn, len, a, b, 0) :: code) L [.int x] h P ↔ P (some (.int x)) h := Z_iret rfl
theorem Q_X9_isLogged_0 {a : Nat}  : Z M_X9_isLogged ((pc, .ireturn, len, a, b, 0) :: code) L [.int (nI 0)] h P ↔ P (some (.int (nI 0))) h := Z_zret rfl (Or.inl rfl)
theorem Q_X9_isLogged_1 {a : Nat}  : Z M_X9_isLogged ((pc, .ireturn, len, a, b, 0) :: code) L [.int (nI 1)] h P ↔ P (some (.int (nI 1))) h := Z_zret rfl (Or.inr rfl)
theorem Q_X9_isReady_0 {a : Nat}  : Z M_X9_isReady ((pc, .ireturn, len, a, b, 0) :: code) L [.int (nI 0)] h P ↔ P (some (.int (nI 0))) h := Z_zret rfl (Or.inl rfl)
theorem Q_X9_isReady_1 {a : Nat}  : Z M_X9_isReady ((pc, .ireturn, len, a, b, 0) :: code) L [.int (nI 1)] h P ↔ P (some (.int (nI 1))) h := Z_zret rfl (Or.inr rfl)
theorem Q_X9_firstReady {a : Nat} {x : Int32} : Z M_X9_firstReady ((pc, .ireturn, len, a, b, 0) :: code) L [.int x] h P ↔ P (some (.int x)) h := Z_iret rfl
theorem Q_X9_isWaiting_0 {a : Nat}  : Z M_X9_isWaiting ((pc, .ireturn, len, a, b, 0) :: code) L [.int (nI 0)] h P ↔ P (some (.int (nI 0))) h := Z_zret rfl (Or.inl rfl)
theorem Q_X9_isWaiting_1 {a : Nat}  : Z M_X9_isWaiting ((pc, .ireturn, len, a, b, 0) :: code) L [.int (nI 1)] h P ↔ P (some (.int (nI 1))) h := Z_zret rfl (Or.inr rfl)
theorem Q_X9_take_ {a : Nat} {x : Int32} : Z M_X9_take_ ((pc, .ireturn, len, a, b, 0) :: code) L [.int x] h P ↔ P (some (.int x)) h := Z_iret rfl
theorem Q_X9_answer {a : Nat}  : Z M_X9_answer ((pc, .return_, len, a, b, 0) :: code) L [] h P ↔ P none h := Z_ret rfl
theorem Q_X9_deliver {a : Nat} {x : Int32} : Z M_X9_deliver ((pc, .ireturn, len, a, b, 0) :: code) L [.int x] h P ↔ P (some (.int x)) h := Z_iret rfl
theorem Q_X9_copy {a : Nat} {x : Int32} : Z M_X9_copy ((pc, .ireturn, len, a, b, 0) :: code) L [.int x] h P ↔ P (some (.int x)) h := Z_iret rfl
theorem Q_X9_lose {a : Nat} {x : Int32} : Z M_X9_lose ((pc, .ireturn, len, a, b, 0) :: code) L [.int x] h P ↔ P (some (.int x)) h := Z_iret rfl
theorem Q_X9_speak {a : Nat} {x : Int32} : Z M_X9_speak ((pc, .ireturn, len, a, b, 0) :: code) L [.int x] h P ↔ P (some (.int x)) h := Z_iret rfl
theorem Q_X9_ask {a : Nat} {x : Int32} : Z M_X9_ask ((pc, .ireturn, len, a, b, 0) :: code) L [.int x] h P ↔ P (some (.int x)) h := Z_iret rfl
theorem Q_X9_tell {a : Nat} {x : Int32} : Z M_X9_tell ((pc, .ireturn, len, a, b, 0) :: code) L [.int x] h P ↔ P (some (.int x)) h := Z_iret rfl
theorem Q_X9_power {a : Nat} {x : Int32} : Z M_X9_power ((pc, .ireturn, len, a, b, 0) :: code) L [.int x] h P ↔ P (some (.int x)) h := Z_iret rfl
theorem Q_X9_clock {a : Nat} {x : Int32} : Z M_X9_clock ((pc, .ireturn, len, a, b, 0) :: code) L [.int x] h P ↔ P (some (.int x)) h := Z_iret rfl
theorem Q_X9_knows {a : Nat} {x : Int32} : Z M_X9_knows ((pc, .ireturn, len, a, b, 0) :: code) L [.int x] h P ↔ P (some (.int x)) h := Z_iret rfl
theorem Q_X9_charactersOf {a : Nat} {x : Int32} : Z M_X9_charactersOf ((pc, .ireturn, len, a, b, 0) :: code) L [.int x] h P ↔ P (some (.int x)) h := Z_iret rfl
theorem Q_X9_count {a : Nat} {x : Int32} : Z M_X9_count ((pc, .ireturn, len, a, b, 0) :: code) L [.int x] h P ↔ P (some (.int x)) h := Z_iret rfl
theorem Q_X9_message {a : Nat} {x : Int32} : Z M_X9_message ((pc, .ireturn, len, a, b, 0) :: code) L [.int x] h P ↔ P (some (.int x)) h := Z_iret rfl
theorem Q_X9_way {a : Nat} {x : Int32} : Z M_X9_way ((pc, .ireturn, len, a, b, 0) :: code) L [.int x] h P ↔ P (some (.int x)) h := Z_iret rfl
theorem Q_J6_bitCount_0f7a4 {a : Nat} {x : Int32} : Z M_J6_bitCount_0f7a4 ((pc, .ireturn, len, a, b, 0) :: code) L [.int x] h P ↔ P (some (.int x)) h := Z_iret rfl
theorem Q_Jxa1e45_init_da8c8 {a : Nat}  : Z M_Jxa1e45_init_da8c8 ((pc, .return_, len, a, b, 0) :: code) L [] h P ↔ P none h := Z_ret rfl
theorem Q_Jxc12de_init_da8c8 {a : Nat}  : Z M_Jxc12de_init_da8c8 ((pc, .return_, len, a, b, 0) :: code) L [] h P ↔ P none h := Z_ret rfl
theorem Q_AL_init_da8c8 {a : Nat}  : Z M_AL_init_da8c8 ((pc, .return_, len, a, b, 0) :: code) L [] h P ↔ P none h := Z_ret rfl
theorem Q_AL_grow_92f84_r {a : Nat} {x : Nat} : Z M_AL_grow_92f84 ((pc, .areturn, len, a, b, 0) :: code) L [.ref x] h P ↔ P (some (.ref x)) h := Z_aretA rfl
theorem Q_AL_grow_d5877_r {a : Nat} {x : Nat} : Z M_AL_grow_d5877 ((pc, .areturn, len, a, b, 0) :: code) L [.ref x] h P ↔ P (some (.ref x)) h := Z_aretA rfl
theorem Q_AL_size_8abf5 {a : Nat} {x : Int32} : Z M_AL_size_8abf5 ((pc, .ireturn, len, a, b, 0) :: code) L [.int x] h P ↔ P (some (.int x)) h := Z_iret rfl
theorem Q_AL_isEmpty_aae02_0 {a : Nat}  : Z M_AL_isEmpty_aae02 ((pc, .ireturn, len, a, b, 0) :: code) L [.int (nI 0)] h P ↔ P (some (.int (nI 0))) h := Z_zret rfl (Or.inl rfl)
theorem Q_AL_isEmpty_aae02_1 {a : Nat}  : Z M_AL_isEmpty_aae02 ((pc, .ireturn, len, a, b, 0) :: code) L [.int (nI 1)] h P ↔ P (some (.int (nI 1))) h := Z_zret rfl (Or.inr rfl)
theorem Q_AL_elementData_915e3_r {a : Nat} {x : Nat} : Z M_AL_elementData_915e3 ((pc, .areturn, len, a, b, 0) :: code) L [.ref x] h P ↔ P (some (.ref x)) h := Z_aret rfl
theorem Q_AL_elementData_915e3_q {a : Nat} {x : Option Nat} : Z M_AL_elementData_915e3 ((pc, .areturn, len, a, b, 0) :: code) L [va_rf x] h P ↔ P (some (va_rf x)) h := Z_aretq rfl
theorem Q_AL_elementData_915e3_n {a : Nat}  : Z M_AL_elementData_915e3 ((pc, .areturn, len, a, b, 0) :: code) L [.null] h P ↔ P (some .null) h := Z_aretn rfl
theorem Q_AL_get_915e3_r {a : Nat} {x : Nat} : Z M_AL_get_915e3 ((pc, .areturn, len, a, b, 0) :: code) L [.ref x] h P ↔ P (some (.ref x)) h := Z_aret rfl
theorem Q_AL_get_915e3_q {a : Nat} {x : Option Nat} : Z M_AL_get_915e3 ((pc, .areturn, len, a, b, 0) :: code) L [va_rf x] h P ↔ P (some (va_rf x)) h := Z_aretq rfl
theorem Q_AL_get_915e3_n {a : Nat}  : Z M_AL_get_915e3 ((pc, .areturn, len, a, b, 0) :: code) L [.null] h P ↔ P (some .null) h := Z_aretn rfl
theorem Q_AL_add_72be8 {a : Nat}  : Z M_AL_add_72be8 ((pc, .return_, len, a, b, 0) :: code) L [] h P ↔ P none h := Z_ret rfl
theorem Q_AL_add_9ea2d_0 {a : Nat}  : Z M_AL_add_9ea2d ((pc, .ireturn, len, a, b, 0) :: code) L [.int (nI 0)] h P ↔ P (some (.int (nI 0))) h := Z_zret rfl (Or.inl rfl)
theorem Q_AL_add_9ea2d_1 {a : Nat}  : Z M_AL_add_9ea2d ((pc, .ireturn, len, a, b, 0) :: code) L [.int (nI 1)] h P ↔ P (some (.int (nI 1))) h := Z_zret rfl (Or.inr rfl)
theorem Q_AL_remove_915e3_r {a : Nat} {x : Nat} : Z M_AL_remove_915e3 ((pc, .areturn, len, a, b, 0) :: code) L [.ref x] h P ↔ P (some (.ref x)) h := Z_aret rfl
theorem Q_AL_remove_915e3_q {a : Nat} {x : Option Nat} : Z M_AL_remove_915e3 ((pc, .areturn, len, a, b, 0) :: code) L [va_rf x] h P ↔ P (some (va_rf x)) h := Z_aretq rfl
theorem Q_AL_remove_915e3_n {a : Nat}  : Z M_AL_remove_915e3 ((pc, .areturn, len, a, b, 0) :: code) L [.null] h P ↔ P (some .null) h := Z_aretn rfl
theorem Q_AL_fastRemove_b59b0 {a : Nat}  : Z M_AL_fastRemove_b59b0 ((pc, .return_, len, a, b, 0) :: code) L [] h P ↔ P none h := Z_ret rfl
theorem Q_J7_copyOf_1904c_r {a : Nat} {x : Nat} : Z M_J7_copyOf_1904c ((pc, .areturn, len, a, b, 0) :: code) L [.ref x] h P ↔ P (some (.ref x)) h := Z_aretA rfl
theorem Q_J7_copyOf_6403c_r {a : Nat} {x : Nat} : Z M_J7_copyOf_6403c ((pc, .areturn, len, a, b, 0) :: code) L [.ref x] h P ↔ P (some (.ref x)) h := Z_aretA rfl
theorem Q_J15_checkIndex_7cf53 {a : Nat} {x : Int32} : Z M_J15_checkIndex_7cf53 ((pc, .ireturn, len, a, b, 0) :: code) L [.int x] h P ↔ P (some (.int x)) h := Z_iret rfl
theorem Q_J8_newLength_cabcc {a : Nat} {x : Int32} : Z M_J8_newLength_cabcc ((pc, .ireturn, len, a, b, 0) :: code) L [.int x] h P ↔ P (some (.int x)) h := Z_iret rfl
theorem Q_J8_hugeLength_7cf53 {a : Nat} {x : Int32} : Z M_J8_hugeLength_7cf53 ((pc, .ireturn, len, a, b, 0) :: code) L [.int x] h P ↔ P (some (.int x)) h := Z_iret rfl
theorem Q_J3_checkIndex_8e157 {a : Nat} {x : Int32} : Z M_J3_checkIndex_8e157 ((pc, .ireturn, len, a, b, 0) :: code) L [.int x] h P ↔ P (some (.int x)) h := Z_iret rfl
theorem Q_L_law_0 {a : Nat}  : Z M_L_law ((pc, .ireturn, len, a, b, 0) :: code) L [.int (nI 0)] h P ↔ P (some (.int (nI 0))) h := Z_zret rfl (Or.inl rfl)
theorem Q_L_law_1 {a : Nat}  : Z M_L_law ((pc, .ireturn, len, a, b, 0) :: code) L [.int (nI 1)] h P ↔ P (some (.int (nI 1))) h := Z_zret rfl (Or.inr rfl)
theorem R_L_law : mR M_L_law = some .boolean := rfl
end ZC
end
section
theorem kd_wfI (h : Hp) (f a : Nat) (v : Int32) : kd (wfI h f a v) = kd h := rfl
theorem ln_wfI (h : Hp) (f a : Nat) (v : Int32) : ln (wfI h f a v) = ln h := rfl
theorem fI_wfI (h : Hp) (f a : Nat) (v : Int32) (q i : Nat) : fI (wfI h f a v) q i = if q = f ∧ i = a then v else fI h q i := rfl
theorem fR_wfI (h : Hp) (f a : Nat) (v : Int32) : fR (wfI h f a v) = fR h := rfl
theorem aI_wfI (h : Hp) (f a : Nat) (v : Int32) : aI (wfI h f a v) = aI h := rfl
theorem aR_wfI (h : Hp) (f a : Nat) (v : Int32) : aR (wfI h f a v) = aR h := rfl
theorem gc_wfI (h : Hp) (f a : Nat) (v : Int32) : gc (wfI h f a v) = gc h := rfl
theorem sz_wfI (h : Hp) (f a : Nat) (v : Int32) : sz (wfI h f a v) = sz h := rfl
theorem sl_wfI (h : Hp) (f a : Nat) (v : Int32) : sl (wfI h f a v) = sl h := rfl
theorem kd_wfR (h : Hp) (f a : Nat) (v : Option Nat) : kd (wfR h f a v) = kd h := rfl
theorem ln_wfR (h : Hp) (f a : Nat) (v : Option Nat) : ln (wfR h f a v) = ln h := rfl
theorem fI_wfR (h : Hp) (f a : Nat) (v : Option Nat) : fI (wfR h f a v) = fI h := rfl
theorem fR_wfR (h : Hp) (f a : Nat) (v : Option Nat) (q i : Nat) : fR (wfR h f a v) q i = if q = f ∧ i = a then v else fR h q i := rfl
theorem aI_wfR (h : Hp) (f a : Nat) (v : Option Nat) : aI (wfR h f a v) = aI h := rfl
theorem aR_wfR (h : Hp) (f a : Nat) (v : Option Nat) : aR (wfR h f a v) = aR h := rfl
theorem gc_wfR (h : Hp) (f a : Nat) (v : Option Nat) : gc (wfR h f a v) = gc h := rfl
theorem sz_wfR (h : Hp) (f a : Nat) (v : Option Nat) : sz (wfR h f a v) = sz h := rfl
theorem sl_wfR (h : Hp) (f a : Nat) (v : Option Nat) : sl (wfR h f a v) = sl h := rfl
theorem kd_waI (h : Hp) (a j : Nat) (v : Int32) : kd (waI h a j v) = kd h := rfl
theorem ln_waI (h : Hp) (a j : Nat) (v : Int32) : ln (waI h a j v) = ln h := rfl
theorem fI_waI (h : Hp) (a j : Nat) (v : Int32) : fI (waI h a j v) = fI h := rfl
theorem fR_waI (h : Hp) (a j : Nat) (v : Int32) : fR (waI h a j v) = fR h := rfl
theorem aI_waI (h : Hp) (a j : Nat) (v : Int32) (q i : Nat) : aI (waI h a j v) q i = if q = a ∧ i = j then v else aI h q i := rfl
theorem aR_waI (h : Hp) (a j : Nat) (v : Int32) : aR (waI h a j v) = aR h := rfl
theorem gc_waI (h : Hp) (a j : Nat) (v : Int32) : gc (waI h a j v) = gc h := rfl
theorem sz_waI (h : Hp) (a j : Nat) (v : Int32) : sz (waI h a j v) = sz h := rfl
theorem sl_waI (h : Hp) (a j : Nat) (v : Int32) : sl (waI h a j v) = sl h := rfl
theorem kd_waR (h : Hp) (a j : Nat) (v : Option Nat) : kd (waR h a j v) = kd h := rfl
theorem ln_waR (h : Hp) (a j : Nat) (v : Option Nat) : ln (waR h a j v) = ln h := rfl
theorem fI_waR (h : Hp) (a j : Nat) (v : Option Nat) : fI (waR h a j v) = fI h := rfl
theorem fR_waR (h : Hp) (a j : Nat) (v : Option Nat) : fR (waR h a j v) = fR h := rfl
theorem aI_waR (h : Hp) (a j : Nat) (v : Option Nat) : aI (waR h a j v) = aI h := rfl
theorem aR_waR (h : Hp) (a j : Nat) (v : Option Nat) (q i : Nat) : aR (waR h a j v) q i = if q = a ∧ i = j then v else aR h q i := rfl
theorem gc_waR (h : Hp) (a j : Nat) (v : Option Nat) : gc (waR h a j v) = gc h := rfl
theorem sz_waR (h : Hp) (a j : Nat) (v : Option Nat) : sz (waR h a j v) = sz h := rfl
theorem sl_waR (h : Hp) (a j : Nat) (v : Option Nat) : sl (waR h a j v) = sl h := rfl
theorem kd_hnew (h : Hp) (k n w : Nat) (q : Nat) : kd (hnew h k n w) q = if q = sz h then k else kd h q := rfl
theorem ln_hnew (h : Hp) (k n w : Nat) (q : Nat) : ln (hnew h k n w) q = if q = sz h then n else ln h q := rfl
theorem fI_hnew (h : Hp) (k n w : Nat) (f q : Nat) : fI (hnew h k n w) f q = if q = sz h then 0 else fI h f q := rfl
theorem fR_hnew (h : Hp) (k n w : Nat) (f q : Nat) : fR (hnew h k n w) f q = if q = sz h then none else fR h f q := rfl
theorem aI_hnew (h : Hp) (k n w : Nat) (q j : Nat) : aI (hnew h k n w) q j = if q = sz h then 0 else aI h q j := rfl
theorem aR_hnew (h : Hp) (k n w : Nat) (q j : Nat) : aR (hnew h k n w) q j = if q = sz h then none else aR h q j := rfl
theorem gc_hnew (h : Hp) (k n w : Nat) : gc (hnew h k n w) = gc h := rfl
theorem sz_hnew (h : Hp) (k n w : Nat) : sz (hnew h k n w) = sz h + 1 := rfl
theorem sl_hnew (h : Hp) (k n w : Nat) : sl (hnew h k n w) = sl h + w := rfl
theorem ar_lt {a b : Nat} (ha : a < 2 ^ 31) (hb : b < 2 ^ 31) : (nI a < nI b) = (a < b) := propext (nI_ltI ha hb)
theorem ar_le {a b : Nat} (ha : a < 2 ^ 31) (hb : b < 2 ^ 31) : (nI a ≤ nI b) = (a ≤ b) := propext (nI_leI ha hb)
theorem ar_eq {a b : Nat} (ha : a < 2 ^ 31) (hb : b < 2 ^ 31) : (nI a = nI b) = (a = b) := propext (nI_eq ha hb)
theorem z_lt {a : Nat} (ha : a < 2 ^ 31) : (nI a < 0) = False := propext ⟨fun h => nI_pos ha h, False.elim⟩
theorem z_le {a : Nat} (ha : a < 2 ^ 31) : (0 ≤ nI a) = True := propext ⟨fun _ => trivial, fun _ => nI_pos' ha⟩
theorem z_gt {a : Nat} (ha : a < 2 ^ 31) : (0 < nI a) = (0 < a) := by rw [← nI_0, ar_lt (by decide) ha]
theorem z_ge {a : Nat} (ha : a < 2 ^ 31) : (nI a ≤ 0) = (a = 0) := by rw [← nI_0, ar_le ha (by decide)]; exact propext ⟨fun h => by omega, fun h => by omega⟩
theorem z_eq {a : Nat} (ha : a < 2 ^ 31) : (nI a = 0) = (a = 0) := by rw [← nI_0, ar_eq ha (by decide)]
theorem z_eq2 {a : Nat} (ha : a < 2 ^ 31) : (nI a = 1) = (a = 1) := by rw [show (1 : Int32) = nI 1 from rfl, ar_eq ha (by decide)]
theorem Y_iaload {m : MI} {code : List Ent} {L : Lv} {st : List Value} {h : Hp} {P : Option Value → Hp → Prop} {pc len a b : Nat} {i : Int32} {x : Nat}  : Z m ((pc, .iaload, len, a, b, 0) :: code) L (.int i :: .ref x :: st) h P ↔ (∃ j, sm_ix i (ln h x) = some j ∧ (kd h x = 20 ∨ kd h x = 41) ∧ Z m code L (.int (aI h x j) :: st) h P) := by
  cases hj : sm_ix i (ln h x) with
  | none =>
    refine (Z_no rfl ?_).trans ⟨False.elim, fun ⟨j, q, _⟩ => by cases q⟩
    have harr : sm_arr (.int i :: .ref x :: st) h = none := by
      show (match sm_ix i (ln h x) with | some j => some (x, j, st) | none => none) = _
      rw [hj]
    simp only [sm_step, harr, sm_in_int, sm_rf]
  | some j =>
    rw [Z_iaload hj]
    exact ⟨fun q => ⟨j, rfl, q⟩, fun ⟨j, q, r⟩ => by cases q; exact r⟩
theorem Y_baload {m : MI} {code : List Ent} {L : Lv} {st : List Value} {h : Hp} {P : Option Value → Hp → Prop} {pc len a b : Nat} {i : Int32} {x : Nat}  : Z m ((pc, .baload, len, a, b, 0) :: code) L (.int i :: .ref x :: st) h P ↔ (∃ j, sm_ix i (ln h x) = some j ∧ kd h x = 21 ∧ Z m code L (.int (aI h x j) :: st) h P) := by
  cases hj : sm_ix i (ln h x) with
  | none =>
    refine (Z_no rfl ?_).trans ⟨False.elim, fun ⟨j, q, _⟩ => by cases q⟩
    have harr : sm_arr (.int i :: .ref x :: st) h = none := by
      show (match sm_ix i (ln h x) with | some j => some (x, j, st) | none => none) = _
      rw [hj]
    simp only [sm_step, harr, sm_in_int, sm_rf]
  | some j =>
    rw [Z_baload hj]
    exact ⟨fun q => ⟨j, rfl, q⟩, fun ⟨j, q, r⟩ => by cases q; exact r⟩
theorem Y_aaload {m : MI} {code : List Ent} {L : Lv} {st : List Value} {h : Hp} {P : Option Value → Hp → Prop} {pc len a b : Nat} {i : Int32} {x : Nat}  : Z m ((pc, .aaload, len, a, b, 0) :: code) L (.int i :: .ref x :: st) h P ↔ (∃ j, sm_ix i (ln h x) = some j ∧ (22 ≤ kd h x ∧ kd h x ≤ 27) ∧ Z m code L (va_rf (aR h x j) :: st) h P) := by
  cases hj : sm_ix i (ln h x) with
  | none =>
    refine (Z_no rfl ?_).trans ⟨False.elim, fun ⟨j, q, _⟩ => by cases q⟩
    have harr : sm_arr (.int i :: .ref x :: st) h = none := by
      show (match sm_ix i (ln h x) with | some j => some (x, j, st) | none => none) = _
      rw [hj]
    simp only [sm_step, harr, sm_in_int, sm_rf]
  | some j =>
    rw [Z_aaload hj]
    exact ⟨fun q => ⟨j, rfl, q⟩, fun ⟨j, q, r⟩ => by cases q; exact r⟩
theorem Y_iastore {m : MI} {code : List Ent} {L : Lv} {st : List Value} {h : Hp} {P : Option Value → Hp → Prop} {pc len a b : Nat} {i : Int32} {x : Nat} {v : Int32} : Z m ((pc, .iastore, len, a, b, 0) :: code) L (.int v :: .int i :: .ref x :: st) h P ↔ (∃ j, sm_ix i (ln h x) = some j ∧ kd h x = 20 ∧ Z m code L st (waI h x j v) P) := by
  cases hj : sm_ix i (ln h x) with
  | none =>
    refine (Z_no rfl ?_).trans ⟨False.elim, fun ⟨j, q, _⟩ => by cases q⟩
    have harr : sm_arr (.int i :: .ref x :: st) h = none := by
      show (match sm_ix i (ln h x) with | some j => some (x, j, st) | none => none) = _
      rw [hj]
    simp only [sm_step, harr, sm_in_int, sm_rf]
  | some j =>
    rw [Z_iastore hj]
    exact ⟨fun q => ⟨j, rfl, q⟩, fun ⟨j, q, r⟩ => by cases q; exact r⟩
theorem Y_bastore {m : MI} {code : List Ent} {L : Lv} {st : List Value} {h : Hp} {P : Option Value → Hp → Prop} {pc len a b : Nat} {i : Int32} {x : Nat} {v : Int32} : Z m ((pc, .bastore, len, a, b, 0) :: code) L (.int v :: .int i :: .ref x :: st) h P ↔ (∃ j, sm_ix i (ln h x) = some j ∧ (kd h x = 21 ∧ (v = 0 ∨ v = 1)) ∧ Z m code L st (waI h x j v) P) := by
  cases hj : sm_ix i (ln h x) with
  | none =>
    refine (Z_no rfl ?_).trans ⟨False.elim, fun ⟨j, q, _⟩ => by cases q⟩
    have harr : sm_arr (.int i :: .ref x :: st) h = none := by
      show (match sm_ix i (ln h x) with | some j => some (x, j, st) | none => none) = _
      rw [hj]
    simp only [sm_step, harr, sm_in_int, sm_rf]
  | some j =>
    rw [Z_bastore hj]
    exact ⟨fun q => ⟨j, rfl, q⟩, fun ⟨j, q, r⟩ => by cases q; exact r⟩
theorem Y_aastore {m : MI} {code : List Ent} {L : Lv} {st : List Value} {h : Hp} {P : Option Value → Hp → Prop} {pc len a b : Nat} {i : Int32} {x : Nat} {v : Nat} : Z m ((pc, .aastore, len, a, b, 0) :: code) L (.ref v :: .int i :: .ref x :: st) h P ↔ (∃ j, sm_ix i (ln h x) = some j ∧ sm_may (kd h x) (kd h v) = true ∧ Z m code L st (waR h x j (some v)) P) := by
  cases hj : sm_ix i (ln h x) with
  | none =>
    refine (Z_no rfl ?_).trans ⟨False.elim, fun ⟨j, q, _⟩ => by cases q⟩
    have harr : sm_arr (.int i :: .ref x :: st) h = none := by
      show (match sm_ix i (ln h x) with | some j => some (x, j, st) | none => none) = _
      rw [hj]
    simp only [sm_step, harr, sm_in_int, sm_rf]
  | some j =>
    rw [Z_aastore hj]
    exact ⟨fun q => ⟨j, rfl, q⟩, fun ⟨j, q, r⟩ => by cases q; exact r⟩
theorem Y_aastoreN {m : MI} {code : List Ent} {L : Lv} {st : List Value} {h : Hp} {P : Option Value → Hp → Prop} {pc len a b : Nat} {i : Int32} {x : Nat}  : Z m ((pc, .aastore, len, a, b, 0) :: code) L (.null :: .int i :: .ref x :: st) h P ↔ (∃ j, sm_ix i (ln h x) = some j ∧ (22 ≤ kd h x ∧ kd h x ≤ 27) ∧ Z m code L st (waR h x j none) P) := by
  cases hj : sm_ix i (ln h x) with
  | none =>
    refine (Z_no rfl ?_).trans ⟨False.elim, fun ⟨j, q, _⟩ => by cases q⟩
    have harr : sm_arr (.int i :: .ref x :: st) h = none := by
      show (match sm_ix i (ln h x) with | some j => some (x, j, st) | none => none) = _
      rw [hj]
    simp only [sm_step, harr, sm_in_int, sm_rf]
  | some j =>
    rw [Z_aastoreN hj]
    exact ⟨fun q => ⟨j, rfl, q⟩, fun ⟨j, q, r⟩ => by cases q; exact r⟩
theorem Z_zretF {m : MI} {code : List Ent} {L : Lv} {h : Hp} {P : Option Value → Hp → Prop} {pc len a b : Nat} (hr : mR m = some .boolean) : Z m ((pc, .ireturn, len, a, b, 0) :: code) L [.int (nI 0)] h P ↔ P (some (.int (nI 0))) h := Z_zret hr (Or.inl rfl)
theorem Z_zretT {m : MI} {code : List Ent} {L : Lv} {h : Hp} {P : Option Value → Hp → Prop} {pc len a b : Nat} (hr : mR m = some .boolean) : Z m ((pc, .ireturn, len, a, b, 0) :: code) L [.int (nI 1)] h P ↔ P (some (.int (nI 1))) h := Z_zret hr (Or.inr rfl)
end
section
abbrev Mg : Type := Nat × Nat × (Nat → Nat)
abbrev St : Type := (Nat → Nat) × (Nat → Nat) × (Nat → Nat) × (Nat → Int32) × (Nat → Option Nat) × (Nat → Nat) × (Nat → Nat → Nat) × (Nat → Bool) × (Nat → Nat → Nat) × (Nat → Nat) × (Nat → List Nat) × (Nat → List Nat) × (Nat → Nat → Nat → Nat) × (Nat → List Mg)
def sMk (s : St) : Nat → Nat := s.1
def sKn (s : St) : Nat → Nat := s.2.1
def sTg (s : St) : Nat → Nat := s.2.2.1
def sVl (s : St) : Nat → Int32 := s.2.2.2.1
def sBh (s : St) : Nat → Option Nat := s.2.2.2.2.1
def sTm (s : St) : Nat → Nat := s.2.2.2.2.2.1
def sCk (s : St) : Nat → Nat → Nat := s.2.2.2.2.2.2.1
def sUp (s : St) : Nat → Bool := s.2.2.2.2.2.2.2.1
def sOw (s : St) : Nat → Nat → Nat := s.2.2.2.2.2.2.2.2.1
def sTi (s : St) : Nat → Nat := s.2.2.2.2.2.2.2.2.2.1
def sDn (s : St) : Nat → List Nat := s.2.2.2.2.2.2.2.2.2.2.1
def sWt (s : St) : Nat → List Nat := s.2.2.2.2.2.2.2.2.2.2.2.1
def sKw (s : St) : Nat → Nat → Nat → Nat := s.2.2.2.2.2.2.2.2.2.2.2.2.1
def sWy (s : St) : Nat → List Mg := s.2.2.2.2.2.2.2.2.2.2.2.2.2
def w_sMk (s : St) (v : Nat → Nat) : St := (v, sKn s, sTg s, sVl s, sBh s, sTm s, sCk s, sUp s, sOw s, sTi s, sDn s, sWt s, sKw s, sWy s)
def w_sKn (s : St) (v : Nat → Nat) : St := (sMk s, v, sTg s, sVl s, sBh s, sTm s, sCk s, sUp s, sOw s, sTi s, sDn s, sWt s, sKw s, sWy s)
def w_sTg (s : St) (v : Nat → Nat) : St := (sMk s, sKn s, v, sVl s, sBh s, sTm s, sCk s, sUp s, sOw s, sTi s, sDn s, sWt s, sKw s, sWy s)
def w_sVl (s : St) (v : Nat → Int32) : St := (sMk s, sKn s, sTg s, v, sBh s, sTm s, sCk s, sUp s, sOw s, sTi s, sDn s, sWt s, sKw s, sWy s)
def w_sBh (s : St) (v : Nat → Option Nat) : St := (sMk s, sKn s, sTg s, sVl s, v, sTm s, sCk s, sUp s, sOw s, sTi s, sDn s, sWt s, sKw s, sWy s)
def w_sTm (s : St) (v : Nat → Nat) : St := (sMk s, sKn s, sTg s, sVl s, sBh s, v, sCk s, sUp s, sOw s, sTi s, sDn s, sWt s, sKw s, sWy s)
def w_sCk (s : St) (v : Nat → Nat → Nat) : St := (sMk s, sKn s, sTg s, sVl s, sBh s, sTm s, v, sUp s, sOw s, sTi s, sDn s, sWt s, sKw s, sWy s)
def w_sUp (s : St) (v : Nat → Bool) : St := (sMk s, sKn s, sTg s, sVl s, sBh s, sTm s, sCk s, v, sOw s, sTi s, sDn s, sWt s, sKw s, sWy s)
def w_sOw (s : St) (v : Nat → Nat → Nat) : St := (sMk s, sKn s, sTg s, sVl s, sBh s, sTm s, sCk s, sUp s, v, sTi s, sDn s, sWt s, sKw s, sWy s)
def w_sTi (s : St) (v : Nat → Nat) : St := (sMk s, sKn s, sTg s, sVl s, sBh s, sTm s, sCk s, sUp s, sOw s, v, sDn s, sWt s, sKw s, sWy s)
def w_sDn (s : St) (v : Nat → List Nat) : St := (sMk s, sKn s, sTg s, sVl s, sBh s, sTm s, sCk s, sUp s, sOw s, sTi s, v, sWt s, sKw s, sWy s)
def w_sWt (s : St) (v : Nat → List Nat) : St := (sMk s, sKn s, sTg s, sVl s, sBh s, sTm s, sCk s, sUp s, sOw s, sTi s, sDn s, v, sKw s, sWy s)
def w_sKw (s : St) (v : Nat → Nat → Nat → Nat) : St := (sMk s, sKn s, sTg s, sVl s, sBh s, sTm s, sCk s, sUp s, sOw s, sTi s, sDn s, sWt s, v, sWy s)
def w_sWy (s : St) (v : Nat → List Mg) : St := (sMk s, sKn s, sTg s, sVl s, sBh s, sTm s, sCk s, sUp s, sOw s, sTi s, sDn s, sWt s, sKw s, v)
theorem sMk_wsMk (s : St) (v : Nat → Nat) : sMk (w_sMk s v) = v := rfl
theorem sKn_wsMk (s : St) (v : Nat → Nat) : sKn (w_sMk s v) = sKn s := rfl
theorem sTg_wsMk (s : St) (v : Nat → Nat) : sTg (w_sMk s v) = sTg s := rfl
theorem sVl_wsMk (s : St) (v : Nat → Nat) : sVl (w_sMk s v) = sVl s := rfl
theorem sBh_wsMk (s : St) (v : Nat → Nat) : sBh (w_sMk s v) = sBh s := rfl
theorem sTm_wsMk (s : St) (v : Nat → Nat) : sTm (w_sMk s v) = sTm s := rfl
theorem sCk_wsMk (s : St) (v : Nat → Nat) : sCk (w_sMk s v) = sCk s := rfl
theorem sUp_wsMk (s : St) (v : Nat → Nat) : sUp (w_sMk s v) = sUp s := rfl
theorem sOw_wsMk (s : St) (v : Nat → Nat) : sOw (w_sMk s v) = sOw s := rfl
theorem sTi_wsMk (s : St) (v : Nat → Nat) : sTi (w_sMk s v) = sTi s := rfl
theorem sDn_wsMk (s : St) (v : Nat → Nat) : sDn (w_sMk s v) = sDn s := rfl
theorem sWt_wsMk (s : St) (v : Nat → Nat) : sWt (w_sMk s v) = sWt s := rfl
theorem sKw_wsMk (s : St) (v : Nat → Nat) : sKw (w_sMk s v) = sKw s := rfl
theorem sWy_wsMk (s : St) (v : Nat → Nat) : sWy (w_sMk s v) = sWy s := rfl
theorem sMk_wsKn (s : St) (v : Nat → Nat) : sMk (w_sKn s v) = sMk s := rfl
theorem sKn_wsKn (s : St) (v : Nat → Nat) : sKn (w_sKn s v) = v := rfl
theorem sTg_wsKn (s : St) (v : Nat → Nat) : sTg (w_sKn s v) = sTg s := rfl
theorem sVl_wsKn (s : St) (v : Nat → Nat) : sVl (w_sKn s v) = sVl s := rfl
theorem sBh_wsKn (s : St) (v : Nat → Nat) : sBh (w_sKn s v) = sBh s := rfl
theorem sTm_wsKn (s : St) (v : Nat → Nat) : sTm (w_sKn s v) = sTm s := rfl
theorem sCk_wsKn (s : St) (v : Nat → Nat) : sCk (w_sKn s v) = sCk s := rfl
theorem sUp_wsKn (s : St) (v : Nat → Nat) : sUp (w_sKn s v) = sUp s := rfl
theorem sOw_wsKn (s : St) (v : Nat → Nat) : sOw (w_sKn s v) = sOw s := rfl
theorem sTi_wsKn (s : St) (v : Nat → Nat) : sTi (w_sKn s v) = sTi s := rfl
theorem sDn_wsKn (s : St) (v : Nat → Nat) : sDn (w_sKn s v) = sDn s := rfl
theorem sWt_wsKn (s : St) (v : Nat → Nat) : sWt (w_sKn s v) = sWt s := rfl
theorem sKw_wsKn (s : St) (v : Nat → Nat) : sKw (w_sKn s v) = sKw s := rfl
theorem sWy_wsKn (s : St) (v : Nat → Nat) : sWy (w_sKn s v) = sWy s := rfl
theorem sMk_wsTg (s : St) (v : Nat → Nat) : sMk (w_sTg s v) = sMk s := rfl
theorem sKn_wsTg (s : St) (v : Nat → Nat) : sKn (w_sTg s v) = sKn s := rfl
theorem sTg_wsTg (s : St) (v : Nat → Nat) : sTg (w_sTg s v) = v := rfl
theorem sVl_wsTg (s : St) (v : Nat → Nat) : sVl (w_sTg s v) = sVl s := rfl
theorem sBh_wsTg (s : St) (v : Nat → Nat) : sBh (w_sTg s v) = sBh s := rfl
theorem sTm_wsTg (s : St) (v : Nat → Nat) : sTm (w_sTg s v) = sTm s := rfl
theorem sCk_wsTg (s : St) (v : Nat → Nat) : sCk (w_sTg s v) = sCk s := rfl
theorem sUp_wsTg (s : St) (v : Nat → Nat) : sUp (w_sTg s v) = sUp s := rfl
theorem sOw_wsTg (s : St) (v : Nat → Nat) : sOw (w_sTg s v) = sOw s := rfl
theorem sTi_wsTg (s : St) (v : Nat → Nat) : sTi (w_sTg s v) = sTi s := rfl
theorem sDn_wsTg (s : St) (v : Nat → Nat) : sDn (w_sTg s v) = sDn s := rfl
theorem sWt_wsTg (s : St) (v : Nat → Nat) : sWt (w_sTg s v) = sWt s := rfl
theorem sKw_wsTg (s : St) (v : Nat → Nat) : sKw (w_sTg s v) = sKw s := rfl
theorem sWy_wsTg (s : St) (v : Nat → Nat) : sWy (w_sTg s v) = sWy s := rfl
theorem sMk_wsVl (s : St) (v : Nat → Int32) : sMk (w_sVl s v) = sMk s := rfl
theorem sKn_wsVl (s : St) (v : Nat → Int32) : sKn (w_sVl s v) = sKn s := rfl
theorem sTg_wsVl (s : St) (v : Nat → Int32) : sTg (w_sVl s v) = sTg s := rfl
theorem sVl_wsVl (s : St) (v : Nat → Int32) : sVl (w_sVl s v) = v := rfl
theorem sBh_wsVl (s : St) (v : Nat → Int32) : sBh (w_sVl s v) = sBh s := rfl
theorem sTm_wsVl (s : St) (v : Nat → Int32) : sTm (w_sVl s v) = sTm s := rfl
theorem sCk_wsVl (s : St) (v : Nat → Int32) : sCk (w_sVl s v) = sCk s := rfl
theorem sUp_wsVl (s : St) (v : Nat → Int32) : sUp (w_sVl s v) = sUp s := rfl
theorem sOw_wsVl (s : St) (v : Nat → Int32) : sOw (w_sVl s v) = sOw s := rfl
theorem sTi_wsVl (s : St) (v : Nat → Int32) : sTi (w_sVl s v) = sTi s := rfl
theorem sDn_wsVl (s : St) (v : Nat → Int32) : sDn (w_sVl s v) = sDn s := rfl
theorem sWt_wsVl (s : St) (v : Nat → Int32) : sWt (w_sVl s v) = sWt s := rfl
theorem sKw_wsVl (s : St) (v : Nat → Int32) : sKw (w_sVl s v) = sKw s := rfl
theorem sWy_wsVl (s : St) (v : Nat → Int32) : sWy (w_sVl s v) = sWy s := rfl
theorem sMk_wsBh (s : St) (v : Nat → Option Nat) : sMk (w_sBh s v) = sMk s := rfl
theorem sKn_wsBh (s : St) (v : Nat → Option Nat) : sKn (w_sBh s v) = sKn s := rfl
theorem sTg_wsBh (s : St) (v : Nat → Option Nat) : sTg (w_sBh s v) = sTg s := rfl
theorem sVl_wsBh (s : St) (v : Nat → Option Nat) : sVl (w_sBh s v) = sVl s := rfl
theorem sBh_wsBh (s : St) (v : Nat → Option Nat) : sBh (w_sBh s v) = v := rfl
theorem sTm_wsBh (s : St) (v : Nat → Option Nat) : sTm (w_sBh s v) = sTm s := rfl
theorem sCk_wsBh (s : St) (v : Nat → Option Nat) : sCk (w_sBh s v) = sCk s := rfl
theorem sUp_wsBh (s : St) (v : Nat → Option Nat) : sUp (w_sBh s v) = sUp s := rfl
theorem sOw_wsBh (s : St) (v : Nat → Option Nat) : sOw (w_sBh s v) = sOw s := rfl
theorem sTi_wsBh (s : St) (v : Nat → Option Nat) : sTi (w_sBh s v) = sTi s := rfl
theorem sDn_wsBh (s : St) (v : Nat → Option Nat) : sDn (w_sBh s v) = sDn s := rfl
theorem sWt_wsBh (s : St) (v : Nat → Option Nat) : sWt (w_sBh s v) = sWt s := rfl
theorem sKw_wsBh (s : St) (v : Nat → Option Nat) : sKw (w_sBh s v) = sKw s := rfl
theorem sWy_wsBh (s : St) (v : Nat → Option Nat) : sWy (w_sBh s v) = sWy s := rfl
theorem sMk_wsTm (s : St) (v : Nat → Nat) : sMk (w_sTm s v) = sMk s := rfl
theorem sKn_wsTm (s : St) (v : Nat → Nat) : sKn (w_sTm s v) = sKn s := rfl
theorem sTg_wsTm (s : St) (v : Nat → Nat) : sTg (w_sTm s v) = sTg s := rfl
theorem sVl_wsTm (s : St) (v : Nat → Nat) : sVl (w_sTm s v) = sVl s := rfl
theorem sBh_wsTm (s : St) (v : Nat → Nat) : sBh (w_sTm s v) = sBh s := rfl
theorem sTm_wsTm (s : St) (v : Nat → Nat) : sTm (w_sTm s v) = v := rfl
theorem sCk_wsTm (s : St) (v : Nat → Nat) : sCk (w_sTm s v) = sCk s := rfl
theorem sUp_wsTm (s : St) (v : Nat → Nat) : sUp (w_sTm s v) = sUp s := rfl
theorem sOw_wsTm (s : St) (v : Nat → Nat) : sOw (w_sTm s v) = sOw s := rfl
theorem sTi_wsTm (s : St) (v : Nat → Nat) : sTi (w_sTm s v) = sTi s := rfl
theorem sDn_wsTm (s : St) (v : Nat → Nat) : sDn (w_sTm s v) = sDn s := rfl
theorem sWt_wsTm (s : St) (v : Nat → Nat) : sWt (w_sTm s v) = sWt s := rfl
theorem sKw_wsTm (s : St) (v : Nat → Nat) : sKw (w_sTm s v) = sKw s := rfl
theorem sWy_wsTm (s : St) (v : Nat → Nat) : sWy (w_sTm s v) = sWy s := rfl
theorem sMk_wsCk (s : St) (v : Nat → Nat → Nat) : sMk (w_sCk s v) = sMk s := rfl
theorem sKn_wsCk (s : St) (v : Nat → Nat → Nat) : sKn (w_sCk s v) = sKn s := rfl
theorem sTg_wsCk (s : St) (v : Nat → Nat → Nat) : sTg (w_sCk s v) = sTg s := rfl
theorem sVl_wsCk (s : St) (v : Nat → Nat → Nat) : sVl (w_sCk s v) = sVl s := rfl
theorem sBh_wsCk (s : St) (v : Nat → Nat → Nat) : sBh (w_sCk s v) = sBh s := rfl
theorem sTm_wsCk (s : St) (v : Nat → Nat → Nat) : sTm (w_sCk s v) = sTm s := rfl
theorem sCk_wsCk (s : St) (v : Nat → Nat → Nat) : sCk (w_sCk s v) = v := rfl
theorem sUp_wsCk (s : St) (v : Nat → Nat → Nat) : sUp (w_sCk s v) = sUp s := rfl
theorem sOw_wsCk (s : St) (v : Nat → Nat → Nat) : sOw (w_sCk s v) = sOw s := rfl
theorem sTi_wsCk (s : St) (v : Nat → Nat → Nat) : sTi (w_sCk s v) = sTi s := rfl
theorem sDn_wsCk (s : St) (v : Nat → Nat → Nat) : sDn (w_sCk s v) = sDn s := rfl
theorem sWt_wsCk (s : St) (v : Nat → Nat → Nat) : sWt (w_sCk s v) = sWt s := rfl
theorem sKw_wsCk (s : St) (v : Nat → Nat → Nat) : sKw (w_sCk s v) = sKw s := rfl
theorem sWy_wsCk (s : St) (v : Nat → Nat → Nat) : sWy (w_sCk s v) = sWy s := rfl
theorem sMk_wsUp (s : St) (v : Nat → Bool) : sMk (w_sUp s v) = sMk s := rfl
theorem sKn_wsUp (s : St) (v : Nat → Bool) : sKn (w_sUp s v) = sKn s := rfl
theorem sTg_wsUp (s : St) (v : Nat → Bool) : sTg (w_sUp s v) = sTg s := rfl
theorem sVl_wsUp (s : St) (v : Nat → Bool) : sVl (w_sUp s v) = sVl s := rfl
theorem sBh_wsUp (s : St) (v : Nat → Bool) : sBh (w_sUp s v) = sBh s := rfl
theorem sTm_wsUp (s : St) (v : Nat → Bool) : sTm (w_sUp s v) = sTm s := rfl
theorem sCk_wsUp (s : St) (v : Nat → Bool) : sCk (w_sUp s v) = sCk s := rfl
theorem sUp_wsUp (s : St) (v : Nat → Bool) : sUp (w_sUp s v) = v := rfl
theorem sOw_wsUp (s : St) (v : Nat → Bool) : sOw (w_sUp s v) = sOw s := rfl
theorem sTi_wsUp (s : St) (v : Nat → Bool) : sTi (w_sUp s v) = sTi s := rfl
theorem sDn_wsUp (s : St) (v : Nat → Bool) : sDn (w_sUp s v) = sDn s := rfl
theorem sWt_wsUp (s : St) (v : Nat → Bool) : sWt (w_sUp s v) = sWt s := rfl
theorem sKw_wsUp (s : St) (v : Nat → Bool) : sKw (w_sUp s v) = sKw s := rfl
theorem sWy_wsUp (s : St) (v : Nat → Bool) : sWy (w_sUp s v) = sWy s := rfl
theorem sMk_wsOw (s : St) (v : Nat → Nat → Nat) : sMk (w_sOw s v) = sMk s := rfl
theorem sKn_wsOw (s : St) (v : Nat → Nat → Nat) : sKn (w_sOw s v) = sKn s := rfl
theorem sTg_wsOw (s : St) (v : Nat → Nat → Nat) : sTg (w_sOw s v) = sTg s := rfl
theorem sVl_wsOw (s : St) (v : Nat → Nat → Nat) : sVl (w_sOw s v) = sVl s := rfl
theorem sBh_wsOw (s : St) (v : Nat → Nat → Nat) : sBh (w_sOw s v) = sBh s := rfl
theorem sTm_wsOw (s : St) (v : Nat → Nat → Nat) : sTm (w_sOw s v) = sTm s := rfl
theorem sCk_wsOw (s : St) (v : Nat → Nat → Nat) : sCk (w_sOw s v) = sCk s := rfl
theorem sUp_wsOw (s : St) (v : Nat → Nat → Nat) : sUp (w_sOw s v) = sUp s := rfl
theorem sOw_wsOw (s : St) (v : Nat → Nat → Nat) : sOw (w_sOw s v) = v := rfl
theorem sTi_wsOw (s : St) (v : Nat → Nat → Nat) : sTi (w_sOw s v) = sTi s := rfl
theorem sDn_wsOw (s : St) (v : Nat → Nat → Nat) : sDn (w_sOw s v) = sDn s := rfl
theorem sWt_wsOw (s : St) (v : Nat → Nat → Nat) : sWt (w_sOw s v) = sWt s := rfl
theorem sKw_wsOw (s : St) (v : Nat → Nat → Nat) : sKw (w_sOw s v) = sKw s := rfl
theorem sWy_wsOw (s : St) (v : Nat → Nat → Nat) : sWy (w_sOw s v) = sWy s := rfl
theorem sMk_wsTi (s : St) (v : Nat → Nat) : sMk (w_sTi s v) = sMk s := rfl
theorem sKn_wsTi (s : St) (v : Nat → Nat) : sKn (w_sTi s v) = sKn s := rfl
theorem sTg_wsTi (s : St) (v : Nat → Nat) : sTg (w_sTi s v) = sTg s := rfl
theorem sVl_wsTi (s : St) (v : Nat → Nat) : sVl (w_sTi s v) = sVl s := rfl
theorem sBh_wsTi (s : St) (v : Nat → Nat) : sBh (w_sTi s v) = sBh s := rfl
theorem sTm_wsTi (s : St) (v : Nat → Nat) : sTm (w_sTi s v) = sTm s := rfl
theorem sCk_wsTi (s : St) (v : Nat → Nat) : sCk (w_sTi s v) = sCk s := rfl
theorem sUp_wsTi (s : St) (v : Nat → Nat) : sUp (w_sTi s v) = sUp s := rfl
theorem sOw_wsTi (s : St) (v : Nat → Nat) : sOw (w_sTi s v) = sOw s := rfl
theorem sTi_wsTi (s : St) (v : Nat → Nat) : sTi (w_sTi s v) = v := rfl
theorem sDn_wsTi (s : St) (v : Nat → Nat) : sDn (w_sTi s v) = sDn s := rfl
theorem sWt_wsTi (s : St) (v : Nat → Nat) : sWt (w_sTi s v) = sWt s := rfl
theorem sKw_wsTi (s : St) (v : Nat → Nat) : sKw (w_sTi s v) = sKw s := rfl
theorem sWy_wsTi (s : St) (v : Nat → Nat) : sWy (w_sTi s v) = sWy s := rfl
theorem sMk_wsDn (s : St) (v : Nat → List Nat) : sMk (w_sDn s v) = sMk s := rfl
theorem sKn_wsDn (s : St) (v : Nat → List Nat) : sKn (w_sDn s v) = sKn s := rfl
theorem sTg_wsDn (s : St) (v : Nat → List Nat) : sTg (w_sDn s v) = sTg s := rfl
theorem sVl_wsDn (s : St) (v : Nat → List Nat) : sVl (w_sDn s v) = sVl s := rfl
theorem sBh_wsDn (s : St) (v : Nat → List Nat) : sBh (w_sDn s v) = sBh s := rfl
theorem sTm_wsDn (s : St) (v : Nat → List Nat) : sTm (w_sDn s v) = sTm s := rfl
theorem sCk_wsDn (s : St) (v : Nat → List Nat) : sCk (w_sDn s v) = sCk s := rfl
theorem sUp_wsDn (s : St) (v : Nat → List Nat) : sUp (w_sDn s v) = sUp s := rfl
theorem sOw_wsDn (s : St) (v : Nat → List Nat) : sOw (w_sDn s v) = sOw s := rfl
theorem sTi_wsDn (s : St) (v : Nat → List Nat) : sTi (w_sDn s v) = sTi s := rfl
theorem sDn_wsDn (s : St) (v : Nat → List Nat) : sDn (w_sDn s v) = v := rfl
theorem sWt_wsDn (s : St) (v : Nat → List Nat) : sWt (w_sDn s v) = sWt s := rfl
theorem sKw_wsDn (s : St) (v : Nat → List Nat) : sKw (w_sDn s v) = sKw s := rfl
theorem sWy_wsDn (s : St) (v : Nat → List Nat) : sWy (w_sDn s v) = sWy s := rfl
theorem sMk_wsWt (s : St) (v : Nat → List Nat) : sMk (w_sWt s v) = sMk s := rfl
theorem sKn_wsWt (s : St) (v : Nat → List Nat) : sKn (w_sWt s v) = sKn s := rfl
theorem sTg_wsWt (s : St) (v : Nat → List Nat) : sTg (w_sWt s v) = sTg s := rfl
theorem sVl_wsWt (s : St) (v : Nat → List Nat) : sVl (w_sWt s v) = sVl s := rfl
theorem sBh_wsWt (s : St) (v : Nat → List Nat) : sBh (w_sWt s v) = sBh s := rfl
theorem sTm_wsWt (s : St) (v : Nat → List Nat) : sTm (w_sWt s v) = sTm s := rfl
theorem sCk_wsWt (s : St) (v : Nat → List Nat) : sCk (w_sWt s v) = sCk s := rfl
theorem sUp_wsWt (s : St) (v : Nat → List Nat) : sUp (w_sWt s v) = sUp s := rfl
theorem sOw_wsWt (s : St) (v : Nat → List Nat) : sOw (w_sWt s v) = sOw s := rfl
theorem sTi_wsWt (s : St) (v : Nat → List Nat) : sTi (w_sWt s v) = sTi s := rfl
theorem sDn_wsWt (s : St) (v : Nat → List Nat) : sDn (w_sWt s v) = sDn s := rfl
theorem sWt_wsWt (s : St) (v : Nat → List Nat) : sWt (w_sWt s v) = v := rfl
theorem sKw_wsWt (s : St) (v : Nat → List Nat) : sKw (w_sWt s v) = sKw s := rfl
theorem sWy_wsWt (s : St) (v : Nat → List Nat) : sWy (w_sWt s v) = sWy s := rfl
theorem sMk_wsKw (s : St) (v : Nat → Nat → Nat → Nat) : sMk (w_sKw s v) = sMk s := rfl
theorem sKn_wsKw (s : St) (v : Nat → Nat → Nat → Nat) : sKn (w_sKw s v) = sKn s := rfl
theorem sTg_wsKw (s : St) (v : Nat → Nat → Nat → Nat) : sTg (w_sKw s v) = sTg s := rfl
theorem sVl_wsKw (s : St) (v : Nat → Nat → Nat → Nat) : sVl (w_sKw s v) = sVl s := rfl
theorem sBh_wsKw (s : St) (v : Nat → Nat → Nat → Nat) : sBh (w_sKw s v) = sBh s := rfl
theorem sTm_wsKw (s : St) (v : Nat → Nat → Nat → Nat) : sTm (w_sKw s v) = sTm s := rfl
theorem sCk_wsKw (s : St) (v : Nat → Nat → Nat → Nat) : sCk (w_sKw s v) = sCk s := rfl
theorem sUp_wsKw (s : St) (v : Nat → Nat → Nat → Nat) : sUp (w_sKw s v) = sUp s := rfl
theorem sOw_wsKw (s : St) (v : Nat → Nat → Nat → Nat) : sOw (w_sKw s v) = sOw s := rfl
theorem sTi_wsKw (s : St) (v : Nat → Nat → Nat → Nat) : sTi (w_sKw s v) = sTi s := rfl
theorem sDn_wsKw (s : St) (v : Nat → Nat → Nat → Nat) : sDn (w_sKw s v) = sDn s := rfl
theorem sWt_wsKw (s : St) (v : Nat → Nat → Nat → Nat) : sWt (w_sKw s v) = sWt s := rfl
theorem sKw_wsKw (s : St) (v : Nat → Nat → Nat → Nat) : sKw (w_sKw s v) = v := rfl
theorem sWy_wsKw (s : St) (v : Nat → Nat → Nat → Nat) : sWy (w_sKw s v) = sWy s := rfl
theorem sMk_wsWy (s : St) (v : Nat → List Mg) : sMk (w_sWy s v) = sMk s := rfl
theorem sKn_wsWy (s : St) (v : Nat → List Mg) : sKn (w_sWy s v) = sKn s := rfl
theorem sTg_wsWy (s : St) (v : Nat → List Mg) : sTg (w_sWy s v) = sTg s := rfl
theorem sVl_wsWy (s : St) (v : Nat → List Mg) : sVl (w_sWy s v) = sVl s := rfl
theorem sBh_wsWy (s : St) (v : Nat → List Mg) : sBh (w_sWy s v) = sBh s := rfl
theorem sTm_wsWy (s : St) (v : Nat → List Mg) : sTm (w_sWy s v) = sTm s := rfl
theorem sCk_wsWy (s : St) (v : Nat → List Mg) : sCk (w_sWy s v) = sCk s := rfl
theorem sUp_wsWy (s : St) (v : Nat → List Mg) : sUp (w_sWy s v) = sUp s := rfl
theorem sOw_wsWy (s : St) (v : Nat → List Mg) : sOw (w_sWy s v) = sOw s := rfl
theorem sTi_wsWy (s : St) (v : Nat → List Mg) : sTi (w_sWy s v) = sTi s := rfl
theorem sDn_wsWy (s : St) (v : Nat → List Mg) : sDn (w_sWy s v) = sDn s := rfl
theorem sWt_wsWy (s : St) (v : Nat → List Mg) : sWt (w_sWy s v) = sWt s := rfl
theorem sKw_wsWy (s : St) (v : Nat → List Mg) : sKw (w_sWy s v) = sKw s := rfl
theorem sWy_wsWy (s : St) (v : Nat → List Mg) : sWy (w_sWy s v) = v := rfl
/-- a function changed at one place -/
def fu {α : Type} (f : Nat → α) (k : Nat) (v : α) : Nat → α := fun j => if j = k then v else f j
theorem fu_at {α : Type} (f : Nat → α) (k : Nat) (v : α) (j : Nat) : fu f k v j = if j = k then v else f j := rfl
def nb (b : Bool) : Nat := if b = true then 1 else 0
theorem nb_le (b : Bool) : nb b ≤ 1 := by cases b <;> decide
def bhI (p : Option Nat) : Int32 := match p with
  | none => - nI 1
  | some q => nI q
/-! the reference: its object at g, its arrays behind it -/
def ML (g : Nat) (h : Hp) : Prop := kd h g = 10 ∧ g + 24 ≤ sz h ∧ (fR h 288 g = some (g + 1) ∧ kd h (g + 1) = 20 ∧ ln h (g + 1) = 4) ∧ (fR h 289 g = some (g + 2) ∧ kd h (g + 2) = 20 ∧ ln h (g + 2) = 240) ∧ (fR h 290 g = some (g + 3) ∧ kd h (g + 3) = 20 ∧ ln h (g + 3) = 240) ∧ (fR h 291 g = some (g + 4) ∧ kd h (g + 4) = 20 ∧ ln h (g + 4) = 240) ∧ (fR h 292 g = some (g + 5) ∧ kd h (g + 5) = 20 ∧ ln h (g + 5) = 240) ∧ (fR h 293 g = some (g + 6) ∧ kd h (g + 6) = 20 ∧ ln h (g + 6) = 240) ∧ (fR h 294 g = some (g + 7) ∧ kd h (g + 7) = 20 ∧ ln h (g + 7) = 960) ∧ (fR h 295 g = some (g + 8) ∧ kd h (g + 8) = 21 ∧ ln h (g + 8) = 4) ∧ (fR h 296 g = some (g + 9) ∧ kd h (g + 9) = 20 ∧ ln h (g + 9) = 16) ∧ (fR h 297 g = some (g + 10) ∧ kd h (g + 10) = 20 ∧ ln h (g + 10) = 4) ∧ (fR h 298 g = some (g + 11) ∧ kd h (g + 11) = 20 ∧ ln h (g + 11) = 4) ∧ (fR h 299 g = some (g + 12) ∧ kd h (g + 12) = 20 ∧ ln h (g + 12) = 960) ∧ (fR h 300 g = some (g + 13) ∧ kd h (g + 13) = 21 ∧ ln h (g + 13) = 960) ∧ (fR h 301 g = some (g + 14) ∧ kd h (g + 14) = 20 ∧ ln h (g + 14) = 4) ∧ (fR h 302 g = some (g + 15) ∧ kd h (g + 15) = 20 ∧ ln h (g + 15) = 960) ∧ (fR h 303 g = some (g + 16) ∧ kd h (g + 16) = 20 ∧ ln h (g + 16) = 64) ∧ (fR h 304 g = some (g + 17) ∧ kd h (g + 17) = 20 ∧ ln h (g + 17) = 16) ∧ (fR h 305 g = some (g + 18) ∧ kd h (g + 18) = 20 ∧ ln h (g + 18) = 480) ∧ (fR h 306 g = some (g + 19) ∧ kd h (g + 19) = 20 ∧ ln h (g + 19) = 480) ∧ (fR h 307 g = some (g + 20) ∧ kd h (g + 20) = 20 ∧ ln h (g + 20) = 1920) ∧ (fR h 308 g = some (g + 21) ∧ kd h (g + 21) = 20 ∧ ln h (g + 21) = 240) ∧ (fR h 310 g = some (g + 22) ∧ kd h (g + 22) = 20 ∧ ln h (g + 22) = 480) ∧ (fR h 311 g = some (g + 23) ∧ kd h (g + 23) = 20 ∧ ln h (g + 23) = 4)
theorem ML.k0 {g : Nat} {h : Hp} (H : ML g h) : kd h g = 10 := H.1
theorem ML.sz {g : Nat} {h : Hp} (H : ML g h) : g + 24 ≤ sz h := H.2.1
theorem ML.f1 {g : Nat} {h : Hp} (H : ML g h) : fR h 288 g = some (g + 1) := H.2.2.1.1
theorem ML.k1 {g : Nat} {h : Hp} (H : ML g h) : kd h (g + 1) = 20 := H.2.2.1.2.1
theorem ML.l1 {g : Nat} {h : Hp} (H : ML g h) : ln h (g + 1) = 4 := H.2.2.1.2.2
theorem ML.f2 {g : Nat} {h : Hp} (H : ML g h) : fR h 289 g = some (g + 2) := H.2.2.2.1.1
theorem ML.k2 {g : Nat} {h : Hp} (H : ML g h) : kd h (g + 2) = 20 := H.2.2.2.1.2.1
theorem ML.l2 {g : Nat} {h : Hp} (H : ML g h) : ln h (g + 2) = 240 := H.2.2.2.1.2.2
theorem ML.f3 {g : Nat} {h : Hp} (H : ML g h) : fR h 290 g = some (g + 3) := H.2.2.2.2.1.1
theorem ML.k3 {g : Nat} {h : Hp} (H : ML g h) : kd h (g + 3) = 20 := H.2.2.2.2.1.2.1
theorem ML.l3 {g : Nat} {h : Hp} (H : ML g h) : ln h (g + 3) = 240 := H.2.2.2.2.1.2.2
theorem ML.f4 {g : Nat} {h : Hp} (H : ML g h) : fR h 291 g = some (g + 4) := H.2.2.2.2.2.1.1
theorem ML.k4 {g : Nat} {h : Hp} (H : ML g h) : kd h (g + 4) = 20 := H.2.2.2.2.2.1.2.1
theorem ML.l4 {g : Nat} {h : Hp} (H : ML g h) : ln h (g + 4) = 240 := H.2.2.2.2.2.1.2.2
theorem ML.f5 {g : Nat} {h : Hp} (H : ML g h) : fR h 292 g = some (g + 5) := H.2.2.2.2.2.2.1.1
theorem ML.k5 {g : Nat} {h : Hp} (H : ML g h) : kd h (g + 5) = 20 := H.2.2.2.2.2.2.1.2.1
theorem ML.l5 {g : Nat} {h : Hp} (H : ML g h) : ln h (g + 5) = 240 := H.2.2.2.2.2.2.1.2.2
theorem ML.f6 {g : Nat} {h : Hp} (H : ML g h) : fR h 293 g = some (g + 6) := H.2.2.2.2.2.2.2.1.1
theorem ML.k6 {g : Nat} {h : Hp} (H : ML g h) : kd h (g + 6) = 20 := H.2.2.2.2.2.2.2.1.2.1
theorem ML.l6 {g : Nat} {h : Hp} (H : ML g h) : ln h (g + 6) = 240 := H.2.2.2.2.2.2.2.1.2.2
theorem ML.f7 {g : Nat} {h : Hp} (H : ML g h) : fR h 294 g = some (g + 7) := H.2.2.2.2.2.2.2.2.1.1
theorem ML.k7 {g : Nat} {h : Hp} (H : ML g h) : kd h (g + 7) = 20 := H.2.2.2.2.2.2.2.2.1.2.1
theorem ML.l7 {g : Nat} {h : Hp} (H : ML g h) : ln h (g + 7) = 960 := H.2.2.2.2.2.2.2.2.1.2.2
theorem ML.f8 {g : Nat} {h : Hp} (H : ML g h) : fR h 295 g = some (g + 8) := H.2.2.2.2.2.2.2.2.2.1.1
theorem ML.k8 {g : Nat} {h : Hp} (H : ML g h) : kd h (g + 8) = 21 := H.2.2.2.2.2.2.2.2.2.1.2.1
theorem ML.l8 {g : Nat} {h : Hp} (H : ML g h) : ln h (g + 8) = 4 := H.2.2.2.2.2.2.2.2.2.1.2.2
theorem ML.f9 {g : Nat} {h : Hp} (H : ML g h) : fR h 296 g = some (g + 9) := H.2.2.2.2.2.2.2.2.2.2.1.1
theorem ML.k9 {g : Nat} {h : Hp} (H : ML g h) : kd h (g + 9) = 20 := H.2.2.2.2.2.2.2.2.2.2.1.2.1
theorem ML.l9 {g : Nat} {h : Hp} (H : ML g h) : ln h (g + 9) = 16 := H.2.2.2.2.2.2.2.2.2.2.1.2.2
theorem ML.f10 {g : Nat} {h : Hp} (H : ML g h) : fR h 297 g = some (g + 10) := H.2.2.2.2.2.2.2.2.2.2.2.1.1
theorem ML.k10 {g : Nat} {h : Hp} (H : ML g h) : kd h (g + 10) = 20 := H.2.2.2.2.2.2.2.2.2.2.2.1.2.1
theorem ML.l10 {g : Nat} {h : Hp} (H : ML g h) : ln h (g + 10) = 4 := H.2.2.2.2.2.2.2.2.2.2.2.1.2.2
theorem ML.f11 {g : Nat} {h : Hp} (H : ML g h) : fR h 298 g = some (g + 11) := H.2.2.2.2.2.2.2.2.2.2.2.2.1.1
theorem ML.k11 {g : Nat} {h : Hp} (H : ML g h) : kd h (g + 11) = 20 := H.2.2.2.2.2.2.2.2.2.2.2.2.1.2.1
theorem ML.l11 {g : Nat} {h : Hp} (H : ML g h) : ln h (g + 11) = 4 := H.2.2.2.2.2.2.2.2.2.2.2.2.1.2.2
theorem ML.f12 {g : Nat} {h : Hp} (H : ML g h) : fR h 299 g = some (g + 12) := H.2.2.2.2.2.2.2.2.2.2.2.2.2.1.1
theorem ML.k12 {g : Nat} {h : Hp} (H : ML g h) : kd h (g + 12) = 20 := H.2.2.2.2.2.2.2.2.2.2.2.2.2.1.2.1
theorem ML.l12 {g : Nat} {h : Hp} (H : ML g h) : ln h (g + 12) = 960 := H.2.2.2.2.2.2.2.2.2.2.2.2.2.1.2.2
theorem ML.f13 {g : Nat} {h : Hp} (H : ML g h) : fR h 300 g = some (g + 13) := H.2.2.2.2.2.2.2.2.2.2.2.2.2.2.1.1
theorem ML.k13 {g : Nat} {h : Hp} (H : ML g h) : kd h (g + 13) = 21 := H.2.2.2.2.2.2.2.2.2.2.2.2.2.2.1.2.1
theorem ML.l13 {g : Nat} {h : Hp} (H : ML g h) : ln h (g + 13) = 960 := H.2.2.2.2.2.2.2.2.2.2.2.2.2.2.1.2.2
theorem ML.f14 {g : Nat} {h : Hp} (H : ML g h) : fR h 301 g = some (g + 14) := H.2.2.2.2.2.2.2.2.2.2.2.2.2.2.2.1.1
theorem ML.k14 {g : Nat} {h : Hp} (H : ML g h) : kd h (g + 14) = 20 := H.2.2.2.2.2.2.2.2.2.2.2.2.2.2.2.1.2.1
theorem ML.l14 {g : Nat} {h : Hp} (H : ML g h) : ln h (g + 14) = 4 := H.2.2.2.2.2.2.2.2.2.2.2.2.2.2.2.1.2.2
theorem ML.f15 {g : Nat} {h : Hp} (H : ML g h) : fR h 302 g = some (g + 15) := H.2.2.2.2.2.2.2.2.2.2.2.2.2.2.2.2.1.1
theorem ML.k15 {g : Nat} {h : Hp} (H : ML g h) : kd h (g + 15) = 20 := H.2.2.2.2.2.2.2.2.2.2.2.2.2.2.2.2.1.2.1
theorem ML.l15 {g : Nat} {h : Hp} (H : ML g h) : ln h (g + 15) = 960 := H.2.2.2.2.2.2.2.2.2.2.2.2.2.2.2.2.1.2.2
theorem ML.f16 {g : Nat} {h : Hp} (H : ML g h) : fR h 303 g = some (g + 16) := H.2.2.2.2.2.2.2.2.2.2.2.2.2.2.2.2.2.1.1
theorem ML.k16 {g : Nat} {h : Hp} (H : ML g h) : kd h (g + 16) = 20 := H.2.2.2.2.2.2.2.2.2.2.2.2.2.2.2.2.2.1.2.1
theorem ML.l16 {g : Nat} {h : Hp} (H : ML g h) : ln h (g + 16) = 64 := H.2.2.2.2.2.2.2.2.2.2.2.2.2.2.2.2.2.1.2.2
theorem ML.f17 {g : Nat} {h : Hp} (H : ML g h) : fR h 304 g = some (g + 17) := H.2.2.2.2.2.2.2.2.2.2.2.2.2.2.2.2.2.2.1.1
theorem ML.k17 {g : Nat} {h : Hp} (H : ML g h) : kd h (g + 17) = 20 := H.2.2.2.2.2.2.2.2.2.2.2.2.2.2.2.2.2.2.1.2.1
theorem ML.l17 {g : Nat} {h : Hp} (H : ML g h) : ln h (g + 17) = 16 := H.2.2.2.2.2.2.2.2.2.2.2.2.2.2.2.2.2.2.1.2.2
theorem ML.f18 {g : Nat} {h : Hp} (H : ML g h) : fR h 305 g = some (g + 18) := H.2.2.2.2.2.2.2.2.2.2.2.2.2.2.2.2.2.2.2.1.1
theorem ML.k18 {g : Nat} {h : Hp} (H : ML g h) : kd h (g + 18) = 20 := H.2.2.2.2.2.2.2.2.2.2.2.2.2.2.2.2.2.2.2.1.2.1
theorem ML.l18 {g : Nat} {h : Hp} (H : ML g h) : ln h (g + 18) = 480 := H.2.2.2.2.2.2.2.2.2.2.2.2.2.2.2.2.2.2.2.1.2.2
theorem ML.f19 {g : Nat} {h : Hp} (H : ML g h) : fR h 306 g = some (g + 19) := H.2.2.2.2.2.2.2.2.2.2.2.2.2.2.2.2.2.2.2.2.1.1
theorem ML.k19 {g : Nat} {h : Hp} (H : ML g h) : kd h (g + 19) = 20 := H.2.2.2.2.2.2.2.2.2.2.2.2.2.2.2.2.2.2.2.2.1.2.1
theorem ML.l19 {g : Nat} {h : Hp} (H : ML g h) : ln h (g + 19) = 480 := H.2.2.2.2.2.2.2.2.2.2.2.2.2.2.2.2.2.2.2.2.1.2.2
theorem ML.f20 {g : Nat} {h : Hp} (H : ML g h) : fR h 307 g = some (g + 20) := H.2.2.2.2.2.2.2.2.2.2.2.2.2.2.2.2.2.2.2.2.2.1.1
theorem ML.k20 {g : Nat} {h : Hp} (H : ML g h) : kd h (g + 20) = 20 := H.2.2.2.2.2.2.2.2.2.2.2.2.2.2.2.2.2.2.2.2.2.1.2.1
theorem ML.l20 {g : Nat} {h : Hp} (H : ML g h) : ln h (g + 20) = 1920 := H.2.2.2.2.2.2.2.2.2.2.2.2.2.2.2.2.2.2.2.2.2.1.2.2
theorem ML.f21 {g : Nat} {h : Hp} (H : ML g h) : fR h 308 g = some (g + 21) := H.2.2.2.2.2.2.2.2.2.2.2.2.2.2.2.2.2.2.2.2.2.2.1.1
theorem ML.k21 {g : Nat} {h : Hp} (H : ML g h) : kd h (g + 21) = 20 := H.2.2.2.2.2.2.2.2.2.2.2.2.2.2.2.2.2.2.2.2.2.2.1.2.1
theorem ML.l21 {g : Nat} {h : Hp} (H : ML g h) : ln h (g + 21) = 240 := H.2.2.2.2.2.2.2.2.2.2.2.2.2.2.2.2.2.2.2.2.2.2.1.2.2
theorem ML.f22 {g : Nat} {h : Hp} (H : ML g h) : fR h 310 g = some (g + 22) := H.2.2.2.2.2.2.2.2.2.2.2.2.2.2.2.2.2.2.2.2.2.2.2.1.1
theorem ML.k22 {g : Nat} {h : Hp} (H : ML g h) : kd h (g + 22) = 20 := H.2.2.2.2.2.2.2.2.2.2.2.2.2.2.2.2.2.2.2.2.2.2.2.1.2.1
theorem ML.l22 {g : Nat} {h : Hp} (H : ML g h) : ln h (g + 22) = 480 := H.2.2.2.2.2.2.2.2.2.2.2.2.2.2.2.2.2.2.2.2.2.2.2.1.2.2
theorem ML.f23 {g : Nat} {h : Hp} (H : ML g h) : fR h 311 g = some (g + 23) := H.2.2.2.2.2.2.2.2.2.2.2.2.2.2.2.2.2.2.2.2.2.2.2.2.1
theorem ML.k23 {g : Nat} {h : Hp} (H : ML g h) : kd h (g + 23) = 20 := H.2.2.2.2.2.2.2.2.2.2.2.2.2.2.2.2.2.2.2.2.2.2.2.2.2.1
theorem ML.l23 {g : Nat} {h : Hp} (H : ML g h) : ln h (g + 23) = 4 := H.2.2.2.2.2.2.2.2.2.2.2.2.2.2.2.2.2.2.2.2.2.2.2.2.2.2
theorem ML_waI {g : Nat} {h : Hp} {a j : Nat} {v : Int32} : ML g (waI h a j v) = ML g h := rfl
theorem ML_wfI {g : Nat} {h : Hp} {a j : Nat} {v : Int32} : ML g (wfI h a j v) = ML g h := rfl
/-- the reference holds s -/
def MR (g : Nat) (h : Hp) (s : St) : Prop := (∀ r, r < 4 → aI h (g + 1) r = nI (sMk s r)) ∧ (∀ o, o < 240 → aI h (g + 2) o = nI (sKn s o)) ∧ (∀ o, o < 240 → aI h (g + 3) o = nI (sTg s o)) ∧ (∀ o, o < 240 → aI h (g + 4) o = sVl s o) ∧ (∀ o, o < 240 → aI h (g + 5) o = bhI (sBh s o)) ∧ (∀ o, o < 240 → aI h (g + 6) o = nI (sTm s o)) ∧ (∀ o j, o < 240 → j < 4 → aI h (g + 7) (4 * o + j) = nI (sCk s o j)) ∧ (∀ r, r < 4 → aI h (g + 8) r = nI (nb (sUp s r))) ∧ (∀ r j, r < 4 → j < 4 → aI h (g + 9) (4 * r + j) = nI (sOw s r j)) ∧ (∀ r, r < 4 → aI h (g + 10) r = nI (sTi s r)) ∧ (∀ r, r < 4 → aI h (g + 11) r = nI (sDn s r).length) ∧ (∀ r k, r < 4 → k < (sDn s r).length → aI h (g + 12) (240 * r + k) = nI ((sDn s r).getD k 0)) ∧ (∀ r o, r < 4 → o < 240 → aI h (g + 13) (240 * r + o) = nI (nb (decide (o ∈ sDn s r)))) ∧ (∀ r, r < 4 → aI h (g + 14) r = nI (sWt s r).length) ∧ (∀ r k, r < 4 → k < (sWt s r).length → aI h (g + 15) (240 * r + k) = nI ((sWt s r).getD k 0)) ∧ (∀ r i j, r < 4 → i < 4 → j < 4 → aI h (g + 16) (16 * r + 4 * i + j) = nI (sKw s r i j)) ∧ (∀ w, w < 16 → aI h (g + 17) w = nI (sWy s w).length) ∧ (∀ w k, w < 16 → k < (sWy s w).length → aI h (g + 18) (30 * w + k) = nI ((sWy s w).getD k (0, 0, fun _ => 0)).1) ∧ (∀ w k, w < 16 → k < (sWy s w).length → aI h (g + 19) (30 * w + k) = nI ((sWy s w).getD k (0, 0, fun _ => 0)).2.1) ∧ (∀ w k j, w < 16 → k < (sWy s w).length → j < 4 → aI h (g + 20) (4 * (30 * w + k) + j) = nI (((sWy s w).getD k (0, 0, fun _ => 0)).2.2 j))
theorem MR.c1 {g : Nat} {h : Hp} {s : St} (H : MR g h s) : ∀ r, r < 4 → aI h (g + 1) r = nI (sMk s r) := H.1
theorem MR.c2 {g : Nat} {h : Hp} {s : St} (H : MR g h s) : ∀ o, o < 240 → aI h (g + 2) o = nI (sKn s o) := H.2.1
theorem MR.c3 {g : Nat} {h : Hp} {s : St} (H : MR g h s) : ∀ o, o < 240 → aI h (g + 3) o = nI (sTg s o) := H.2.2.1
theorem MR.c4 {g : Nat} {h : Hp} {s : St} (H : MR g h s) : ∀ o, o < 240 → aI h (g + 4) o = sVl s o := H.2.2.2.1
theorem MR.c5 {g : Nat} {h : Hp} {s : St} (H : MR g h s) : ∀ o, o < 240 → aI h (g + 5) o = bhI (sBh s o) := H.2.2.2.2.1
theorem MR.c6 {g : Nat} {h : Hp} {s : St} (H : MR g h s) : ∀ o, o < 240 → aI h (g + 6) o = nI (sTm s o) := H.2.2.2.2.2.1
theorem MR.c7 {g : Nat} {h : Hp} {s : St} (H : MR g h s) : ∀ o j, o < 240 → j < 4 → aI h (g + 7) (4 * o + j) = nI (sCk s o j) := H.2.2.2.2.2.2.1
theorem MR.c8 {g : Nat} {h : Hp} {s : St} (H : MR g h s) : ∀ r, r < 4 → aI h (g + 8) r = nI (nb (sUp s r)) := H.2.2.2.2.2.2.2.1
theorem MR.c9 {g : Nat} {h : Hp} {s : St} (H : MR g h s) : ∀ r j, r < 4 → j < 4 → aI h (g + 9) (4 * r + j) = nI (sOw s r j) := H.2.2.2.2.2.2.2.2.1
theorem MR.c10 {g : Nat} {h : Hp} {s : St} (H : MR g h s) : ∀ r, r < 4 → aI h (g + 10) r = nI (sTi s r) := H.2.2.2.2.2.2.2.2.2.1
theorem MR.c11 {g : Nat} {h : Hp} {s : St} (H : MR g h s) : ∀ r, r < 4 → aI h (g + 11) r = nI (sDn s r).length := H.2.2.2.2.2.2.2.2.2.2.1
theorem MR.c12 {g : Nat} {h : Hp} {s : St} (H : MR g h s) : ∀ r k, r < 4 → k < (sDn s r).length → aI h (g + 12) (240 * r + k) = nI ((sDn s r).getD k 0) := H.2.2.2.2.2.2.2.2.2.2.2.1
theorem MR.c13 {g : Nat} {h : Hp} {s : St} (H : MR g h s) : ∀ r o, r < 4 → o < 240 → aI h (g + 13) (240 * r + o) = nI (nb (decide (o ∈ sDn s r))) := H.2.2.2.2.2.2.2.2.2.2.2.2.1
theorem MR.c14 {g : Nat} {h : Hp} {s : St} (H : MR g h s) : ∀ r, r < 4 → aI h (g + 14) r = nI (sWt s r).length := H.2.2.2.2.2.2.2.2.2.2.2.2.2.1
theorem MR.c15 {g : Nat} {h : Hp} {s : St} (H : MR g h s) : ∀ r k, r < 4 → k < (sWt s r).length → aI h (g + 15) (240 * r + k) = nI ((sWt s r).getD k 0) := H.2.2.2.2.2.2.2.2.2.2.2.2.2.2.1
theorem MR.c16 {g : Nat} {h : Hp} {s : St} (H : MR g h s) : ∀ r i j, r < 4 → i < 4 → j < 4 → aI h (g + 16) (16 * r + 4 * i + j) = nI (sKw s r i j) := H.2.2.2.2.2.2.2.2.2.2.2.2.2.2.2.1
theorem MR.c17 {g : Nat} {h : Hp} {s : St} (H : MR g h s) : ∀ w, w < 16 → aI h (g + 17) w = nI (sWy s w).length := H.2.2.2.2.2.2.2.2.2.2.2.2.2.2.2.2.1
theorem MR.c18 {g : Nat} {h : Hp} {s : St} (H : MR g h s) : ∀ w k, w < 16 → k < (sWy s w).length → aI h (g + 18) (30 * w + k) = nI ((sWy s w).getD k (0, 0, fun _ => 0)).1 := H.2.2.2.2.2.2.2.2.2.2.2.2.2.2.2.2.2.1
theorem MR.c19 {g : Nat} {h : Hp} {s : St} (H : MR g h s) : ∀ w k, w < 16 → k < (sWy s w).length → aI h (g + 19) (30 * w + k) = nI ((sWy s w).getD k (0, 0, fun _ => 0)).2.1 := H.2.2.2.2.2.2.2.2.2.2.2.2.2.2.2.2.2.2.1
theorem MR.c20 {g : Nat} {h : Hp} {s : St} (H : MR g h s) : ∀ w k j, w < 16 → k < (sWy s w).length → j < 4 → aI h (g + 20) (4 * (30 * w + k) + j) = nI (((sWy s w).getD k (0, 0, fun _ => 0)).2.2 j) := H.2.2.2.2.2.2.2.2.2.2.2.2.2.2.2.2.2.2.2
/-- bounds of what a state holds -/
def Bd (s : St) : Prop := (∀ r, r < 4 → sMk s r ≤ 60) ∧ (∀ o, o < 240 → sKn s o ≤ 5 ∧ sTg s o ≤ 1 ∧ sTm s o ≤ 100000 ∧ (∀ p, sBh s o = some p → p < 240) ∧ ∀ j, j < 4 → sCk s o j ≤ 60) ∧ (∀ r, r < 4 → sTi s r ≤ 100000 ∧ (sDn s r).length ≤ 240 ∧ (sWt s r).length ≤ 239 ∧ (∀ o ∈ sDn s r, o < 240) ∧ (∀ o ∈ sWt s r, o < 240) ∧ (∀ j, j < 4 → sOw s r j ≤ 60) ∧ ∀ i j, i < 4 → j < 4 → sKw s r i j ≤ 60) ∧ (∀ w, w < 16 → (sWy s w).length ≤ 30 ∧ ∀ q ∈ sWy s w, q.1 ≤ 2 ∧ (q.1 = 0 → q.2.1 < 240) ∧ (q.1 ≠ 0 → q.2.1 < 4) ∧ ∀ j, j < 4 → q.2.2 j ≤ 60)
end
section
/-! THE REFERENCE, small methods -/
theorem e_in (v lo hi : Int32) (h : Hp) (P : Option Value → Hp → Prop) : Ev M_X9_in [.int v, .int lo, .int hi] h P ↔ P (some (.int (nI (if lo ≤ v ∧ v ≤ hi then 1 else 0)))) h := by
  simp (disch := first | omega | assumption) only [Z_iconst, Z_bipush, Z_sipush, Z_ldc, Z_ldcM, Z_ldcw, Z_null, Z_getstatic, Z_iload0, Z_aload0, Z_aloadq0, Z_aloadn0, Z_istore0, Z_astore0, Z_astoreq0, Z_astoren0, Z_iinc0, Z_iload1, Z_aload1, Z_aloadq1, Z_aloadn1, Z_istore1, Z_astore1, Z_astoreq1, Z_astoren1, Z_iinc1, Z_iload2, Z_aload2, Z_aloadq2, Z_aloadn2, Z_istore2, Z_astore2, Z_astoreq2, Z_astoren2, Z_iinc2, Z_iload3, Z_aload3, Z_aloadq3, Z_aloadn3, Z_istore3, Z_astore3, Z_astoreq3, Z_astoren3, Z_iinc3, Z_iload4, Z_aload4, Z_aloadq4, Z_aloadn4, Z_istore4, Z_astore4, Z_astoreq4, Z_astoren4, Z_iinc4, Z_iload5, Z_aload5, Z_aloadq5, Z_aloadn5, Z_istore5, Z_astore5, Z_astoreq5, Z_astoren5, Z_iinc5, Z_iload6, Z_aload6, Z_aloadq6, Z_aloadn6, Z_istore6, Z_astore6, Z_astoreq6, Z_astoren6, Z_iinc6, Z_iload7, Z_aload7, Z_aloadq7, Z_aloadn7, Z_istore7, Z_astore7, Z_astoreq7, Z_astoren7, Z_iinc7, Z_iload8, Z_aload8, Z_aloadq8, Z_aloadn8, Z_istore8, Z_astore8, Z_astoreq8, Z_astoren8, Z_iinc8, Z_iload9, Z_aload9, Z_aloadq9, Z_aloadn9, Z_istore9, Z_astore9, Z_astoreq9, Z_astoren9, Z_iinc9, Z_iload10, Z_aload10, Z_aloadq10, Z_aloadn10, Z_istore10, Z_astore10, Z_astoreq10, Z_astoren10, Z_iinc10, Z_iload11, Z_aload11, Z_aloadq11, Z_aloadn11, Z_istore11, Z_astore11, Z_astoreq11, Z_astoren11, Z_iinc11, Z_iload12, Z_aload12, Z_aloadq12, Z_aloadn12, Z_istore12, Z_astore12, Z_astoreq12, Z_astoren12, Z_iinc12, Z_iadd, Z_isub, Z_imul, Z_iand, Z_ior, Z_ishl, Z_ishr, Z_iushr, Z_idiv, Z_irem, Z_dup, Z_dupx1, Z_dup2, Z_pop, Z_if_eq, Z_icmp_eq, Z_if_ne, Z_icmp_ne, Z_if_lt, Z_icmp_lt, Z_if_le, Z_icmp_le, Z_if_ge, Z_icmp_ge, Z_if_gt, Z_icmp_gt, Z_acmp_eqq1, Z_acmp_eqq2, Z_acmp_eqq3, Z_acmp_eqq4, Z_acmp_neq1, Z_acmp_neq2, Z_acmp_neq3, Z_acmp_neq4, Z_ifnull, Z_ifnullN, Z_ifnullq, Z_ifnonnull, Z_ifnonnullN, Z_ifnonnullq, Z_goto, Z_getI, Z_getZ, Z_getR, Z_putI, Z_putR, Z_putN, Z_putQ, Z_putZ, Z_new, Z_newarray, Z_anewarray, Z_alen, Z_cast, Z_objInit, Z_clone, Z_getClass, Z_copy, Z_max, Z_min, Y_iaload, Y_baload, Y_aaload, Y_iastore, Y_bastore, Y_aastore, Y_aastoreN, lt_0p, lt_1n, va_some, va_none, Option.toList_some, Option.toList_none, List.nil_append, List.cons_append, List.length_nil, List.length_cons, true_and, and_true, if_true, if_false, ite_true, ite_false, Nat.zero_le, Nat.not_lt_zero, Nat.reduceLeDiff, Nat.reduceEqDiff, Nat.reduceAdd, Nat.reduceMul, Nat.reduceSub, Nat.reduceLT, Nat.zero_add, not_true_eq_false, not_false_eq_true, true_or, or_true, false_or, or_false, Nat.add_zero, false_and, and_false, exists_eq_left', Option.some.injEq, k_X9_in_0, sk_X9_in_14, k_X9_in_14, sk_X9_in_15, k_X9_in_15, Q_X9_in_0, Q_X9_in_1, E_X9_in]
  by_cases h1 : v < lo
  · rw [if_pos h1, if_neg (fun z => absurd h1 (Int32.not_lt.mpr z.1))]
  · rw [if_neg h1]
    by_cases h2 : hi < v
    · rw [if_pos h2, if_neg (fun z => absurd h2 (Int32.not_lt.mpr z.2))]
    · rw [if_neg h2, if_pos ⟨Int32.not_lt.mp h1, Int32.not_lt.mp h2⟩]
theorem e_isReplica (v : Int32) (h : Hp) (P : Option Value → Hp → Prop) : Ev M_X9_isReplica [.int v] h P ↔ P (some (.int (nI (if 0 ≤ v ∧ v ≤ nI 3 then 1 else 0)))) h := by
  simp (disch := first | omega | assumption) only [Z_iconst, Z_bipush, Z_sipush, Z_ldc, Z_ldcM, Z_ldcw, Z_null, Z_getstatic, Z_iload0, Z_aload0, Z_aloadq0, Z_aloadn0, Z_istore0, Z_astore0, Z_astoreq0, Z_astoren0, Z_iinc0, Z_iload1, Z_aload1, Z_aloadq1, Z_aloadn1, Z_istore1, Z_astore1, Z_astoreq1, Z_astoren1, Z_iinc1, Z_iload2, Z_aload2, Z_aloadq2, Z_aloadn2, Z_istore2, Z_astore2, Z_astoreq2, Z_astoren2, Z_iinc2, Z_iload3, Z_aload3, Z_aloadq3, Z_aloadn3, Z_istore3, Z_astore3, Z_astoreq3, Z_astoren3, Z_iinc3, Z_iload4, Z_aload4, Z_aloadq4, Z_aloadn4, Z_istore4, Z_astore4, Z_astoreq4, Z_astoren4, Z_iinc4, Z_iload5, Z_aload5, Z_aloadq5, Z_aloadn5, Z_istore5, Z_astore5, Z_astoreq5, Z_astoren5, Z_iinc5, Z_iload6, Z_aload6, Z_aloadq6, Z_aloadn6, Z_istore6, Z_astore6, Z_astoreq6, Z_astoren6, Z_iinc6, Z_iload7, Z_aload7, Z_aloadq7, Z_aloadn7, Z_istore7, Z_astore7, Z_astoreq7, Z_astoren7, Z_iinc7, Z_iload8, Z_aload8, Z_aloadq8, Z_aloadn8, Z_istore8, Z_astore8, Z_astoreq8, Z_astoren8, Z_iinc8, Z_iload9, Z_aload9, Z_aloadq9, Z_aloadn9, Z_istore9, Z_astore9, Z_astoreq9, Z_astoren9, Z_iinc9, Z_iload10, Z_aload10, Z_aloadq10, Z_aloadn10, Z_istore10, Z_astore10, Z_astoreq10, Z_astoren10, Z_iinc10, Z_iload11, Z_aload11, Z_aloadq11, Z_aloadn11, Z_istore11, Z_astore11, Z_astoreq11, Z_astoren11, Z_iinc11, Z_iload12, Z_aload12, Z_aloadq12, Z_aloadn12, Z_istore12, Z_astore12, Z_astoreq12, Z_astoren12, Z_iinc12, Z_iadd, Z_isub, Z_imul, Z_iand, Z_ior, Z_ishl, Z_ishr, Z_iushr, Z_idiv, Z_irem, Z_dup, Z_dupx1, Z_dup2, Z_pop, Z_if_eq, Z_icmp_eq, Z_if_ne, Z_icmp_ne, Z_if_lt, Z_icmp_lt, Z_if_le, Z_icmp_le, Z_if_ge, Z_icmp_ge, Z_if_gt, Z_icmp_gt, Z_acmp_eqq1, Z_acmp_eqq2, Z_acmp_eqq3, Z_acmp_eqq4, Z_acmp_neq1, Z_acmp_neq2, Z_acmp_neq3, Z_acmp_neq4, Z_ifnull, Z_ifnullN, Z_ifnullq, Z_ifnonnull, Z_ifnonnullN, Z_ifnonnullq, Z_goto, Z_getI, Z_getZ, Z_getR, Z_putI, Z_putR, Z_putN, Z_putQ, Z_putZ, Z_new, Z_newarray, Z_anewarray, Z_alen, Z_cast, Z_objInit, Z_clone, Z_getClass, Z_copy, Z_max, Z_min, Y_iaload, Y_baload, Y_aaload, Y_iastore, Y_bastore, Y_aastore, Y_aastoreN, lt_0p, lt_1n, va_some, va_none, Option.toList_some, Option.toList_none, List.nil_append, List.cons_append, List.length_nil, List.length_cons, true_and, and_true, if_true, if_false, ite_true, ite_false, Nat.zero_le, Nat.not_lt_zero, Nat.reduceLeDiff, Nat.reduceEqDiff, Nat.reduceAdd, Nat.reduceMul, Nat.reduceSub, Nat.reduceLT, Nat.zero_add, not_true_eq_false, not_false_eq_true, true_or, or_true, false_or, or_false, Nat.add_zero, false_and, and_false, exists_eq_left', Option.some.injEq, k_X9_isReplica_0, Q_X9_isReplica_0, Q_X9_isReplica_1, C_X9_in, E_X9_isReplica, e_in]
  have : nI 0 = 0 := rfl
  rw [this]
  split <;> simp (disch := first | omega | assumption) only [Z_iconst, Z_bipush, Z_sipush, Z_ldc, Z_ldcM, Z_ldcw, Z_null, Z_getstatic, Z_iload0, Z_aload0, Z_aloadq0, Z_aloadn0, Z_istore0, Z_astore0, Z_astoreq0, Z_astoren0, Z_iinc0, Z_iload1, Z_aload1, Z_aloadq1, Z_aloadn1, Z_istore1, Z_astore1, Z_astoreq1, Z_astoren1, Z_iinc1, Z_iload2, Z_aload2, Z_aloadq2, Z_aloadn2, Z_istore2, Z_astore2, Z_astoreq2, Z_astoren2, Z_iinc2, Z_iload3, Z_aload3, Z_aloadq3, Z_aloadn3, Z_istore3, Z_astore3, Z_astoreq3, Z_astoren3, Z_iinc3, Z_iload4, Z_aload4, Z_aloadq4, Z_aloadn4, Z_istore4, Z_astore4, Z_astoreq4, Z_astoren4, Z_iinc4, Z_iload5, Z_aload5, Z_aloadq5, Z_aloadn5, Z_istore5, Z_astore5, Z_astoreq5, Z_astoren5, Z_iinc5, Z_iload6, Z_aload6, Z_aloadq6, Z_aloadn6, Z_istore6, Z_astore6, Z_astoreq6, Z_astoren6, Z_iinc6, Z_iload7, Z_aload7, Z_aloadq7, Z_aloadn7, Z_istore7, Z_astore7, Z_astoreq7, Z_astoren7, Z_iinc7, Z_iload8, Z_aload8, Z_aloadq8, Z_aloadn8, Z_istore8, Z_astore8, Z_astoreq8, Z_astoren8, Z_iinc8, Z_iload9, Z_aload9, Z_aloadq9, Z_aloadn9, Z_istore9, Z_astore9, Z_astoreq9, Z_astoren9, Z_iinc9, Z_iload10, Z_aload10, Z_aloadq10, Z_aloadn10, Z_istore10, Z_astore10, Z_astoreq10, Z_astoren10, Z_iinc10, Z_iload11, Z_aload11, Z_aloadq11, Z_aloadn11, Z_istore11, Z_astore11, Z_astoreq11, Z_astoren11, Z_iinc11, Z_iload12, Z_aload12, Z_aloadq12, Z_aloadn12, Z_istore12, Z_astore12, Z_astoreq12, Z_astoren12, Z_iinc12, Z_iadd, Z_isub, Z_imul, Z_iand, Z_ior, Z_ishl, Z_ishr, Z_iushr, Z_idiv, Z_irem, Z_dup, Z_dupx1, Z_dup2, Z_pop, Z_if_eq, Z_icmp_eq, Z_if_ne, Z_icmp_ne, Z_if_lt, Z_icmp_lt, Z_if_le, Z_icmp_le, Z_if_ge, Z_icmp_ge, Z_if_gt, Z_icmp_gt, Z_acmp_eqq1, Z_acmp_eqq2, Z_acmp_eqq3, Z_acmp_eqq4, Z_acmp_neq1, Z_acmp_neq2, Z_acmp_neq3, Z_acmp_neq4, Z_ifnull, Z_ifnullN, Z_ifnullq, Z_ifnonnull, Z_ifnonnullN, Z_ifnonnullq, Z_goto, Z_getI, Z_getZ, Z_getR, Z_putI, Z_putR, Z_putN, Z_putQ, Z_putZ, Z_new, Z_newarray, Z_anewarray, Z_alen, Z_cast, Z_objInit, Z_clone, Z_getClass, Z_copy, Z_max, Z_min, Y_iaload, Y_baload, Y_aaload, Y_iastore, Y_bastore, Y_aastore, Y_aastoreN, lt_0p, lt_1n, va_some, va_none, Option.toList_some, Option.toList_none, List.nil_append, List.cons_append, List.length_nil, List.length_cons, true_and, and_true, if_true, if_false, ite_true, ite_false, Nat.zero_le, Nat.not_lt_zero, Nat.reduceLeDiff, Nat.reduceEqDiff, Nat.reduceAdd, Nat.reduceMul, Nat.reduceSub, Nat.reduceLT, Nat.zero_add, not_true_eq_false, not_false_eq_true, true_or, or_true, false_or, or_false, Nat.add_zero, false_and, and_false, exists_eq_left', Option.some.injEq, k_X9_isReplica_0, Q_X9_isReplica_0, Q_X9_isReplica_1, C_X9_in]
theorem e_ownerOf (o : Nat) (ho : o < 240) (h : Hp) (P : Option Value → Hp → Prop) : Ev M_X9_ownerOf [.int (nI o)] h P ↔ P (some (.int (nI (o / 60)))) h := by
  simp (disch := first | omega | assumption) only [Z_iconst, Z_bipush, Z_sipush, Z_ldc, Z_ldcM, Z_ldcw, Z_null, Z_getstatic, Z_iload0, Z_aload0, Z_aloadq0, Z_aloadn0, Z_istore0, Z_astore0, Z_astoreq0, Z_astoren0, Z_iinc0, Z_iload1, Z_aload1, Z_aloadq1, Z_aloadn1, Z_istore1, Z_astore1, Z_astoreq1, Z_astoren1, Z_iinc1, Z_iload2, Z_aload2, Z_aloadq2, Z_aloadn2, Z_istore2, Z_astore2, Z_astoreq2, Z_astoren2, Z_iinc2, Z_iload3, Z_aload3, Z_aloadq3, Z_aloadn3, Z_istore3, Z_astore3, Z_astoreq3, Z_astoren3, Z_iinc3, Z_iload4, Z_aload4, Z_aloadq4, Z_aloadn4, Z_istore4, Z_astore4, Z_astoreq4, Z_astoren4, Z_iinc4, Z_iload5, Z_aload5, Z_aloadq5, Z_aloadn5, Z_istore5, Z_astore5, Z_astoreq5, Z_astoren5, Z_iinc5, Z_iload6, Z_aload6, Z_aloadq6, Z_aloadn6, Z_istore6, Z_astore6, Z_astoreq6, Z_astoren6, Z_iinc6, Z_iload7, Z_aload7, Z_aloadq7, Z_aloadn7, Z_istore7, Z_astore7, Z_astoreq7, Z_astoren7, Z_iinc7, Z_iload8, Z_aload8, Z_aloadq8, Z_aloadn8, Z_istore8, Z_astore8, Z_astoreq8, Z_astoren8, Z_iinc8, Z_iload9, Z_aload9, Z_aloadq9, Z_aloadn9, Z_istore9, Z_astore9, Z_astoreq9, Z_astoren9, Z_iinc9, Z_iload10, Z_aload10, Z_aloadq10, Z_aloadn10, Z_istore10, Z_astore10, Z_astoreq10, Z_astoren10, Z_iinc10, Z_iload11, Z_aload11, Z_aloadq11, Z_aloadn11, Z_istore11, Z_astore11, Z_astoreq11, Z_astoren11, Z_iinc11, Z_iload12, Z_aload12, Z_aloadq12, Z_aloadn12, Z_istore12, Z_astore12, Z_astoreq12, Z_astoren12, Z_iinc12, Z_iadd, Z_isub, Z_imul, Z_iand, Z_ior, Z_ishl, Z_ishr, Z_iushr, Z_idiv, Z_irem, Z_dup, Z_dupx1, Z_dup2, Z_pop, Z_if_eq, Z_icmp_eq, Z_if_ne, Z_icmp_ne, Z_if_lt, Z_icmp_lt, Z_if_le, Z_icmp_le, Z_if_ge, Z_icmp_ge, Z_if_gt, Z_icmp_gt, Z_acmp_eqq1, Z_acmp_eqq2, Z_acmp_eqq3, Z_acmp_eqq4, Z_acmp_neq1, Z_acmp_neq2, Z_acmp_neq3, Z_acmp_neq4, Z_ifnull, Z_ifnullN, Z_ifnullq, Z_ifnonnull, Z_ifnonnullN, Z_ifnonnullq, Z_goto, Z_getI, Z_getZ, Z_getR, Z_putI, Z_putR, Z_putN, Z_putQ, Z_putZ, Z_new, Z_newarray, Z_anewarray, Z_alen, Z_cast, Z_objInit, Z_clone, Z_getClass, Z_copy, Z_max, Z_min, Y_iaload, Y_baload, Y_aaload, Y_iastore, Y_bastore, Y_aastore, Y_aastoreN, lt_0p, lt_1n, va_some, va_none, Option.toList_some, Option.toList_none, List.nil_append, List.cons_append, List.length_nil, List.length_cons, true_and, and_true, if_true, if_false, ite_true, ite_false, Nat.zero_le, Nat.not_lt_zero, Nat.reduceLeDiff, Nat.reduceEqDiff, Nat.reduceAdd, Nat.reduceMul, Nat.reduceSub, Nat.reduceLT, Nat.zero_add, not_true_eq_false, not_false_eq_true, true_or, or_true, false_or, or_false, Nat.add_zero, false_and, and_false, exists_eq_left', Option.some.injEq, k_X9_ownerOf_0, Q_X9_ownerOf, E_X9_ownerOf, nI_add, pk_mul, ar_lt, ar_le, ar_eq, z_lt, z_le, z_gt, z_ge, z_eq, z_eq2, ix_nI, nI_clamp, ne_eq, pk_div]
theorem e_numberOf (o : Nat) (ho : o < 240) (h : Hp) (P : Option Value → Hp → Prop) : Ev M_X9_numberOf [.int (nI o)] h P ↔ P (some (.int (nI (o % 60 + 1)))) h := by
  simp (disch := first | omega | assumption) only [Z_iconst, Z_bipush, Z_sipush, Z_ldc, Z_ldcM, Z_ldcw, Z_null, Z_getstatic, Z_iload0, Z_aload0, Z_aloadq0, Z_aloadn0, Z_istore0, Z_astore0, Z_astoreq0, Z_astoren0, Z_iinc0, Z_iload1, Z_aload1, Z_aloadq1, Z_aloadn1, Z_istore1, Z_astore1, Z_astoreq1, Z_astoren1, Z_iinc1, Z_iload2, Z_aload2, Z_aloadq2, Z_aloadn2, Z_istore2, Z_astore2, Z_astoreq2, Z_astoren2, Z_iinc2, Z_iload3, Z_aload3, Z_aloadq3, Z_aloadn3, Z_istore3, Z_astore3, Z_astoreq3, Z_astoren3, Z_iinc3, Z_iload4, Z_aload4, Z_aloadq4, Z_aloadn4, Z_istore4, Z_astore4, Z_astoreq4, Z_astoren4, Z_iinc4, Z_iload5, Z_aload5, Z_aloadq5, Z_aloadn5, Z_istore5, Z_astore5, Z_astoreq5, Z_astoren5, Z_iinc5, Z_iload6, Z_aload6, Z_aloadq6, Z_aloadn6, Z_istore6, Z_astore6, Z_astoreq6, Z_astoren6, Z_iinc6, Z_iload7, Z_aload7, Z_aloadq7, Z_aloadn7, Z_istore7, Z_astore7, Z_astoreq7, Z_astoren7, Z_iinc7, Z_iload8, Z_aload8, Z_aloadq8, Z_aloadn8, Z_istore8, Z_astore8, Z_astoreq8, Z_astoren8, Z_iinc8, Z_iload9, Z_aload9, Z_aloadq9, Z_aloadn9, Z_istore9, Z_astore9, Z_astoreq9, Z_astoren9, Z_iinc9, Z_iload10, Z_aload10, Z_aloadq10, Z_aloadn10, Z_istore10, Z_astore10, Z_astoreq10, Z_astoren10, Z_iinc10, Z_iload11, Z_aload11, Z_aloadq11, Z_aloadn11, Z_istore11, Z_astore11, Z_astoreq11, Z_astoren11, Z_iinc11, Z_iload12, Z_aload12, Z_aloadq12, Z_aloadn12, Z_istore12, Z_astore12, Z_astoreq12, Z_astoren12, Z_iinc12, Z_iadd, Z_isub, Z_imul, Z_iand, Z_ior, Z_ishl, Z_ishr, Z_iushr, Z_idiv, Z_irem, Z_dup, Z_dupx1, Z_dup2, Z_pop, Z_if_eq, Z_icmp_eq, Z_if_ne, Z_icmp_ne, Z_if_lt, Z_icmp_lt, Z_if_le, Z_icmp_le, Z_if_ge, Z_icmp_ge, Z_if_gt, Z_icmp_gt, Z_acmp_eqq1, Z_acmp_eqq2, Z_acmp_eqq3, Z_acmp_eqq4, Z_acmp_neq1, Z_acmp_neq2, Z_acmp_neq3, Z_acmp_neq4, Z_ifnull, Z_ifnullN, Z_ifnullq, Z_ifnonnull, Z_ifnonnullN, Z_ifnonnullq, Z_goto, Z_getI, Z_getZ, Z_getR, Z_putI, Z_putR, Z_putN, Z_putQ, Z_putZ, Z_new, Z_newarray, Z_anewarray, Z_alen, Z_cast, Z_objInit, Z_clone, Z_getClass, Z_copy, Z_max, Z_min, Y_iaload, Y_baload, Y_aaload, Y_iastore, Y_bastore, Y_aastore, Y_aastoreN, lt_0p, lt_1n, va_some, va_none, Option.toList_some, Option.toList_none, List.nil_append, List.cons_append, List.length_nil, List.length_cons, true_and, and_true, if_true, if_false, ite_true, ite_false, Nat.zero_le, Nat.not_lt_zero, Nat.reduceLeDiff, Nat.reduceEqDiff, Nat.reduceAdd, Nat.reduceMul, Nat.reduceSub, Nat.reduceLT, Nat.zero_add, not_true_eq_false, not_false_eq_true, true_or, or_true, false_or, or_false, Nat.add_zero, false_and, and_false, exists_eq_left', Option.some.injEq, k_X9_numberOf_0, Q_X9_numberOf, E_X9_numberOf, nI_add, pk_mul, ar_lt, ar_le, ar_eq, z_lt, z_le, z_gt, z_ge, z_eq, z_eq2, ix_nI, nI_clamp, ne_eq, pk_rem]
theorem e_knowsOf (g r i j : Nat) (hr : r < 4) (hi : i < 4) (hj : j < 4) (h : Hp) (P : Option Value → Hp → Prop) (hM : ML g h) : Ev M_X9_knowsOf [.ref g, .int (nI r), .int (nI i), .int (nI j)] h P ↔ P (some (.int (if r = i then aI h (g + 9) (4 * r + j) else aI h (g + 16) (16 * r + 4 * i + j)))) h := by
  by_cases hri : r = i
  · simp (disch := first | omega | assumption) only [Z_iconst, Z_bipush, Z_sipush, Z_ldc, Z_ldcM, Z_ldcw, Z_null, Z_getstatic, Z_iload0, Z_aload0, Z_aloadq0, Z_aloadn0, Z_istore0, Z_astore0, Z_astoreq0, Z_astoren0, Z_iinc0, Z_iload1, Z_aload1, Z_aloadq1, Z_aloadn1, Z_istore1, Z_astore1, Z_astoreq1, Z_astoren1, Z_iinc1, Z_iload2, Z_aload2, Z_aloadq2, Z_aloadn2, Z_istore2, Z_astore2, Z_astoreq2, Z_astoren2, Z_iinc2, Z_iload3, Z_aload3, Z_aloadq3, Z_aloadn3, Z_istore3, Z_astore3, Z_astoreq3, Z_astoren3, Z_iinc3, Z_iload4, Z_aload4, Z_aloadq4, Z_aloadn4, Z_istore4, Z_astore4, Z_astoreq4, Z_astoren4, Z_iinc4, Z_iload5, Z_aload5, Z_aloadq5, Z_aloadn5, Z_istore5, Z_astore5, Z_astoreq5, Z_astoren5, Z_iinc5, Z_iload6, Z_aload6, Z_aloadq6, Z_aloadn6, Z_istore6, Z_astore6, Z_astoreq6, Z_astoren6, Z_iinc6, Z_iload7, Z_aload7, Z_aloadq7, Z_aloadn7, Z_istore7, Z_astore7, Z_astoreq7, Z_astoren7, Z_iinc7, Z_iload8, Z_aload8, Z_aloadq8, Z_aloadn8, Z_istore8, Z_astore8, Z_astoreq8, Z_astoren8, Z_iinc8, Z_iload9, Z_aload9, Z_aloadq9, Z_aloadn9, Z_istore9, Z_astore9, Z_astoreq9, Z_astoren9, Z_iinc9, Z_iload10, Z_aload10, Z_aloadq10, Z_aloadn10, Z_istore10, Z_astore10, Z_astoreq10, Z_astoren10, Z_iinc10, Z_iload11, Z_aload11, Z_aloadq11, Z_aloadn11, Z_istore11, Z_astore11, Z_astoreq11, Z_astoren11, Z_iinc11, Z_iload12, Z_aload12, Z_aloadq12, Z_aloadn12, Z_istore12, Z_astore12, Z_astoreq12, Z_astoren12, Z_iinc12, Z_iadd, Z_isub, Z_imul, Z_iand, Z_ior, Z_ishl, Z_ishr, Z_iushr, Z_idiv, Z_irem, Z_dup, Z_dupx1, Z_dup2, Z_pop, Z_if_eq, Z_icmp_eq, Z_if_ne, Z_icmp_ne, Z_if_lt, Z_icmp_lt, Z_if_le, Z_icmp_le, Z_if_ge, Z_icmp_ge, Z_if_gt, Z_icmp_gt, Z_acmp_eqq1, Z_acmp_eqq2, Z_acmp_eqq3, Z_acmp_eqq4, Z_acmp_neq1, Z_acmp_neq2, Z_acmp_neq3, Z_acmp_neq4, Z_ifnull, Z_ifnullN, Z_ifnullq, Z_ifnonnull, Z_ifnonnullN, Z_ifnonnullq, Z_goto, Z_getI, Z_getZ, Z_getR, Z_putI, Z_putR, Z_putN, Z_putQ, Z_putZ, Z_new, Z_newarray, Z_anewarray, Z_alen, Z_cast, Z_objInit, Z_clone, Z_getClass, Z_copy, Z_max, Z_min, Y_iaload, Y_baload, Y_aaload, Y_iastore, Y_bastore, Y_aastore, Y_aastoreN, lt_0p, lt_1n, va_some, va_none, Option.toList_some, Option.toList_none, List.nil_append, List.cons_append, List.length_nil, List.length_cons, true_and, and_true, if_true, if_false, ite_true, ite_false, Nat.zero_le, Nat.not_lt_zero, Nat.reduceLeDiff, Nat.reduceEqDiff, Nat.reduceAdd, Nat.reduceMul, Nat.reduceSub, Nat.reduceLT, Nat.zero_add, not_true_eq_false, not_false_eq_true, true_or, or_true, false_or, or_false, Nat.add_zero, false_and, and_false, exists_eq_left', Option.some.injEq, k_X9_knowsOf_0, sk_X9_knowsOf_18, k_X9_knowsOf_18, sk_X9_knowsOf_33, k_X9_knowsOf_33, Q_X9_knowsOf, E_X9_knowsOf, nI_add, pk_mul, ar_lt, ar_le, ar_eq, z_lt, z_le, z_gt, z_ge, z_eq, z_eq2, ix_nI, nI_clamp, ne_eq, hM.k0, hM.f1, hM.k1, hM.l1, hM.f2, hM.k2, hM.l2, hM.f3, hM.k3, hM.l3, hM.f4, hM.k4, hM.l4, hM.f5, hM.k5, hM.l5, hM.f6, hM.k6, hM.l6, hM.f7, hM.k7, hM.l7, hM.f8, hM.k8, hM.l8, hM.f9, hM.k9, hM.l9, hM.f10, hM.k10, hM.l10, hM.f11, hM.k11, hM.l11, hM.f12, hM.k12, hM.l12, hM.f13, hM.k13, hM.l13, hM.f14, hM.k14, hM.l14, hM.f15, hM.k15, hM.l15, hM.f16, hM.k16, hM.l16, hM.f17, hM.k17, hM.l17, hM.f18, hM.k18, hM.l18, hM.f19, hM.k19, hM.l19, hM.f20, hM.k20, hM.l20, hM.f21, hM.k21, hM.l21, hM.f22, hM.k22, hM.l22, hM.f23, hM.k23, hM.l23, hri]
  · simp (disch := first | omega | assumption) only [Z_iconst, Z_bipush, Z_sipush, Z_ldc, Z_ldcM, Z_ldcw, Z_null, Z_getstatic, Z_iload0, Z_aload0, Z_aloadq0, Z_aloadn0, Z_istore0, Z_astore0, Z_astoreq0, Z_astoren0, Z_iinc0, Z_iload1, Z_aload1, Z_aloadq1, Z_aloadn1, Z_istore1, Z_astore1, Z_astoreq1, Z_astoren1, Z_iinc1, Z_iload2, Z_aload2, Z_aloadq2, Z_aloadn2, Z_istore2, Z_astore2, Z_astoreq2, Z_astoren2, Z_iinc2, Z_iload3, Z_aload3, Z_aloadq3, Z_aloadn3, Z_istore3, Z_astore3, Z_astoreq3, Z_astoren3, Z_iinc3, Z_iload4, Z_aload4, Z_aloadq4, Z_aloadn4, Z_istore4, Z_astore4, Z_astoreq4, Z_astoren4, Z_iinc4, Z_iload5, Z_aload5, Z_aloadq5, Z_aloadn5, Z_istore5, Z_astore5, Z_astoreq5, Z_astoren5, Z_iinc5, Z_iload6, Z_aload6, Z_aloadq6, Z_aloadn6, Z_istore6, Z_astore6, Z_astoreq6, Z_astoren6, Z_iinc6, Z_iload7, Z_aload7, Z_aloadq7, Z_aloadn7, Z_istore7, Z_astore7, Z_astoreq7, Z_astoren7, Z_iinc7, Z_iload8, Z_aload8, Z_aloadq8, Z_aloadn8, Z_istore8, Z_astore8, Z_astoreq8, Z_astoren8, Z_iinc8, Z_iload9, Z_aload9, Z_aloadq9, Z_aloadn9, Z_istore9, Z_astore9, Z_astoreq9, Z_astoren9, Z_iinc9, Z_iload10, Z_aload10, Z_aloadq10, Z_aloadn10, Z_istore10, Z_astore10, Z_astoreq10, Z_astoren10, Z_iinc10, Z_iload11, Z_aload11, Z_aloadq11, Z_aloadn11, Z_istore11, Z_astore11, Z_astoreq11, Z_astoren11, Z_iinc11, Z_iload12, Z_aload12, Z_aloadq12, Z_aloadn12, Z_istore12, Z_astore12, Z_astoreq12, Z_astoren12, Z_iinc12, Z_iadd, Z_isub, Z_imul, Z_iand, Z_ior, Z_ishl, Z_ishr, Z_iushr, Z_idiv, Z_irem, Z_dup, Z_dupx1, Z_dup2, Z_pop, Z_if_eq, Z_icmp_eq, Z_if_ne, Z_icmp_ne, Z_if_lt, Z_icmp_lt, Z_if_le, Z_icmp_le, Z_if_ge, Z_icmp_ge, Z_if_gt, Z_icmp_gt, Z_acmp_eqq1, Z_acmp_eqq2, Z_acmp_eqq3, Z_acmp_eqq4, Z_acmp_neq1, Z_acmp_neq2, Z_acmp_neq3, Z_acmp_neq4, Z_ifnull, Z_ifnullN, Z_ifnullq, Z_ifnonnull, Z_ifnonnullN, Z_ifnonnullq, Z_goto, Z_getI, Z_getZ, Z_getR, Z_putI, Z_putR, Z_putN, Z_putQ, Z_putZ, Z_new, Z_newarray, Z_anewarray, Z_alen, Z_cast, Z_objInit, Z_clone, Z_getClass, Z_copy, Z_max, Z_min, Y_iaload, Y_baload, Y_aaload, Y_iastore, Y_bastore, Y_aastore, Y_aastoreN, lt_0p, lt_1n, va_some, va_none, Option.toList_some, Option.toList_none, List.nil_append, List.cons_append, List.length_nil, List.length_cons, true_and, and_true, if_true, if_false, ite_true, ite_false, Nat.zero_le, Nat.not_lt_zero, Nat.reduceLeDiff, Nat.reduceEqDiff, Nat.reduceAdd, Nat.reduceMul, Nat.reduceSub, Nat.reduceLT, Nat.zero_add, not_true_eq_false, not_false_eq_true, true_or, or_true, false_or, or_false, Nat.add_zero, false_and, and_false, exists_eq_left', Option.some.injEq, k_X9_knowsOf_0, sk_X9_knowsOf_18, k_X9_knowsOf_18, sk_X9_knowsOf_33, k_X9_knowsOf_33, Q_X9_knowsOf, E_X9_knowsOf, nI_add, pk_mul, ar_lt, ar_le, ar_eq, z_lt, z_le, z_gt, z_ge, z_eq, z_eq2, ix_nI, nI_clamp, ne_eq, hM.k0, hM.f1, hM.k1, hM.l1, hM.f2, hM.k2, hM.l2, hM.f3, hM.k3, hM.l3, hM.f4, hM.k4, hM.l4, hM.f5, hM.k5, hM.l5, hM.f6, hM.k6, hM.l6, hM.f7, hM.k7, hM.l7, hM.f8, hM.k8, hM.l8, hM.f9, hM.k9, hM.l9, hM.f10, hM.k10, hM.l10, hM.f11, hM.k11, hM.l11, hM.f12, hM.k12, hM.l12, hM.f13, hM.k13, hM.l13, hM.f14, hM.k14, hM.l14, hM.f15, hM.k15, hM.l15, hM.f16, hM.k16, hM.l16, hM.f17, hM.k17, hM.l17, hM.f18, hM.k18, hM.l18, hM.f19, hM.k19, hM.l19, hM.f20, hM.k20, hM.l20, hM.f21, hM.k21, hM.l21, hM.f22, hM.k22, hM.l22, hM.f23, hM.k23, hM.l23, hri]
end
section
theorem e_isTwo (v : Int32) (h : Hp) (P : Option Value → Hp → Prop) : Ev M_X9_isTwo [.int v] h P ↔ P (some (.int (nI (if 0 ≤ v ∧ v ≤ nI 1 then 1 else 0)))) h := by
  simp (disch := first | omega | assumption) only [Z_iconst, Z_bipush, Z_sipush, Z_ldc, Z_ldcM, Z_ldcw, Z_null, Z_getstatic, Z_iload0, Z_aload0, Z_aloadq0, Z_aloadn0, Z_istore0, Z_astore0, Z_astoreq0, Z_astoren0, Z_iinc0, Z_iload1, Z_aload1, Z_aloadq1, Z_aloadn1, Z_istore1, Z_astore1, Z_astoreq1, Z_astoren1, Z_iinc1, Z_iload2, Z_aload2, Z_aloadq2, Z_aloadn2, Z_istore2, Z_astore2, Z_astoreq2, Z_astoren2, Z_iinc2, Z_iload3, Z_aload3, Z_aloadq3, Z_aloadn3, Z_istore3, Z_astore3, Z_astoreq3, Z_astoren3, Z_iinc3, Z_iload4, Z_aload4, Z_aloadq4, Z_aloadn4, Z_istore4, Z_astore4, Z_astoreq4, Z_astoren4, Z_iinc4, Z_iload5, Z_aload5, Z_aloadq5, Z_aloadn5, Z_istore5, Z_astore5, Z_astoreq5, Z_astoren5, Z_iinc5, Z_iload6, Z_aload6, Z_aloadq6, Z_aloadn6, Z_istore6, Z_astore6, Z_astoreq6, Z_astoren6, Z_iinc6, Z_iload7, Z_aload7, Z_aloadq7, Z_aloadn7, Z_istore7, Z_astore7, Z_astoreq7, Z_astoren7, Z_iinc7, Z_iload8, Z_aload8, Z_aloadq8, Z_aloadn8, Z_istore8, Z_astore8, Z_astoreq8, Z_astoren8, Z_iinc8, Z_iload9, Z_aload9, Z_aloadq9, Z_aloadn9, Z_istore9, Z_astore9, Z_astoreq9, Z_astoren9, Z_iinc9, Z_iload10, Z_aload10, Z_aloadq10, Z_aloadn10, Z_istore10, Z_astore10, Z_astoreq10, Z_astoren10, Z_iinc10, Z_iload11, Z_aload11, Z_aloadq11, Z_aloadn11, Z_istore11, Z_astore11, Z_astoreq11, Z_astoren11, Z_iinc11, Z_iload12, Z_aload12, Z_aloadq12, Z_aloadn12, Z_istore12, Z_astore12, Z_astoreq12, Z_astoren12, Z_iinc12, Z_iadd, Z_isub, Z_imul, Z_iand, Z_ior, Z_ishl, Z_ishr, Z_iushr, Z_idiv, Z_irem, Z_dup, Z_dupx1, Z_dup2, Z_pop, Z_if_eq, Z_icmp_eq, Z_if_ne, Z_icmp_ne, Z_if_lt, Z_icmp_lt, Z_if_le, Z_icmp_le, Z_if_ge, Z_icmp_ge, Z_if_gt, Z_icmp_gt, Z_acmp_eqq1, Z_acmp_eqq2, Z_acmp_eqq3, Z_acmp_eqq4, Z_acmp_neq1, Z_acmp_neq2, Z_acmp_neq3, Z_acmp_neq4, Z_ifnull, Z_ifnullN, Z_ifnullq, Z_ifnonnull, Z_ifnonnullN, Z_ifnonnullq, Z_goto, Z_getI, Z_getZ, Z_getR, Z_putI, Z_putR, Z_putN, Z_putQ, Z_putZ, Z_new, Z_newarray, Z_anewarray, Z_alen, Z_cast, Z_objInit, Z_clone, Z_getClass, Z_copy, Z_max, Z_min, Y_iaload, Y_baload, Y_aaload, Y_iastore, Y_bastore, Y_aastore, Y_aastoreN, lt_0p, lt_1n, va_some, va_none, Option.toList_some, Option.toList_none, List.nil_append, List.cons_append, List.length_nil, List.length_cons, true_and, and_true, if_true, if_false, ite_true, ite_false, Nat.zero_le, Nat.not_lt_zero, Nat.reduceLeDiff, Nat.reduceEqDiff, Nat.reduceAdd, Nat.reduceMul, Nat.reduceSub, Nat.reduceLT, Nat.zero_add, not_true_eq_false, not_false_eq_true, true_or, or_true, false_or, or_false, Nat.add_zero, false_and, and_false, exists_eq_left', Option.some.injEq, k_X9_isTwo_0, Q_X9_isTwo_0, Q_X9_isTwo_1, C_X9_in, E_X9_isTwo, e_in]
  have : nI 0 = 0 := rfl
  rw [this]
  split <;> simp (disch := first | omega | assumption) only [Z_iconst, Z_bipush, Z_sipush, Z_ldc, Z_ldcM, Z_ldcw, Z_null, Z_getstatic, Z_iload0, Z_aload0, Z_aloadq0, Z_aloadn0, Z_istore0, Z_astore0, Z_astoreq0, Z_astoren0, Z_iinc0, Z_iload1, Z_aload1, Z_aloadq1, Z_aloadn1, Z_istore1, Z_astore1, Z_astoreq1, Z_astoren1, Z_iinc1, Z_iload2, Z_aload2, Z_aloadq2, Z_aloadn2, Z_istore2, Z_astore2, Z_astoreq2, Z_astoren2, Z_iinc2, Z_iload3, Z_aload3, Z_aloadq3, Z_aloadn3, Z_istore3, Z_astore3, Z_astoreq3, Z_astoren3, Z_iinc3, Z_iload4, Z_aload4, Z_aloadq4, Z_aloadn4, Z_istore4, Z_astore4, Z_astoreq4, Z_astoren4, Z_iinc4, Z_iload5, Z_aload5, Z_aloadq5, Z_aloadn5, Z_istore5, Z_astore5, Z_astoreq5, Z_astoren5, Z_iinc5, Z_iload6, Z_aload6, Z_aloadq6, Z_aloadn6, Z_istore6, Z_astore6, Z_astoreq6, Z_astoren6, Z_iinc6, Z_iload7, Z_aload7, Z_aloadq7, Z_aloadn7, Z_istore7, Z_astore7, Z_astoreq7, Z_astoren7, Z_iinc7, Z_iload8, Z_aload8, Z_aloadq8, Z_aloadn8, Z_istore8, Z_astore8, Z_astoreq8, Z_astoren8, Z_iinc8, Z_iload9, Z_aload9, Z_aloadq9, Z_aloadn9, Z_istore9, Z_astore9, Z_astoreq9, Z_astoren9, Z_iinc9, Z_iload10, Z_aload10, Z_aloadq10, Z_aloadn10, Z_istore10, Z_astore10, Z_astoreq10, Z_astoren10, Z_iinc10, Z_iload11, Z_aload11, Z_aloadq11, Z_aloadn11, Z_istore11, Z_astore11, Z_astoreq11, Z_astoren11, Z_iinc11, Z_iload12, Z_aload12, Z_aloadq12, Z_aloadn12, Z_istore12, Z_astore12, Z_astoreq12, Z_astoren12, Z_iinc12, Z_iadd, Z_isub, Z_imul, Z_iand, Z_ior, Z_ishl, Z_ishr, Z_iushr, Z_idiv, Z_irem, Z_dup, Z_dupx1, Z_dup2, Z_pop, Z_if_eq, Z_icmp_eq, Z_if_ne, Z_icmp_ne, Z_if_lt, Z_icmp_lt, Z_if_le, Z_icmp_le, Z_if_ge, Z_icmp_ge, Z_if_gt, Z_icmp_gt, Z_acmp_eqq1, Z_acmp_eqq2, Z_acmp_eqq3, Z_acmp_eqq4, Z_acmp_neq1, Z_acmp_neq2, Z_acmp_neq3, Z_acmp_neq4, Z_ifnull, Z_ifnullN, Z_ifnullq, Z_ifnonnull, Z_ifnonnullN, Z_ifnonnullq, Z_goto, Z_getI, Z_getZ, Z_getR, Z_putI, Z_putR, Z_putN, Z_putQ, Z_putZ, Z_new, Z_newarray, Z_anewarray, Z_alen, Z_cast, Z_objInit, Z_clone, Z_getClass, Z_copy, Z_max, Z_min, Y_iaload, Y_baload, Y_aaload, Y_iastore, Y_bastore, Y_aastore, Y_aastoreN, lt_0p, lt_1n, va_some, va_none, Option.toList_some, Option.toList_none, List.nil_append, List.cons_append, List.length_nil, List.length_cons, true_and, and_true, if_true, if_false, ite_true, ite_false, Nat.zero_le, Nat.not_lt_zero, Nat.reduceLeDiff, Nat.reduceEqDiff, Nat.reduceAdd, Nat.reduceMul, Nat.reduceSub, Nat.reduceLT, Nat.zero_add, not_true_eq_false, not_false_eq_true, true_or, or_true, false_or, or_false, Nat.add_zero, false_and, and_false, exists_eq_left', Option.some.injEq, k_X9_isTwo_0, Q_X9_isTwo_0, Q_X9_isTwo_1, C_X9_in]
theorem e_was {g r o : Nat} {h : Hp} {s : St} {P : Option Value → Hp → Prop} (hM : ML g h) (hR : MR g h s) (hr : r < 4) (ho : o < 240) : Ev M_X9_was [.ref g, .int (nI r), .int (nI o)] h P ↔ P (some (.int (nI (nb (decide (o ∈ sDn s r)))))) h := by
  simp (disch := first | omega | assumption) only [Z_iconst, Z_bipush, Z_sipush, Z_ldc, Z_ldcM, Z_ldcw, Z_null, Z_getstatic, Z_iload0, Z_aload0, Z_aloadq0, Z_aloadn0, Z_istore0, Z_astore0, Z_astoreq0, Z_astoren0, Z_iinc0, Z_iload1, Z_aload1, Z_aloadq1, Z_aloadn1, Z_istore1, Z_astore1, Z_astoreq1, Z_astoren1, Z_iinc1, Z_iload2, Z_aload2, Z_aloadq2, Z_aloadn2, Z_istore2, Z_astore2, Z_astoreq2, Z_astoren2, Z_iinc2, Z_iload3, Z_aload3, Z_aloadq3, Z_aloadn3, Z_istore3, Z_astore3, Z_astoreq3, Z_astoren3, Z_iinc3, Z_iload4, Z_aload4, Z_aloadq4, Z_aloadn4, Z_istore4, Z_astore4, Z_astoreq4, Z_astoren4, Z_iinc4, Z_iload5, Z_aload5, Z_aloadq5, Z_aloadn5, Z_istore5, Z_astore5, Z_astoreq5, Z_astoren5, Z_iinc5, Z_iload6, Z_aload6, Z_aloadq6, Z_aloadn6, Z_istore6, Z_astore6, Z_astoreq6, Z_astoren6, Z_iinc6, Z_iload7, Z_aload7, Z_aloadq7, Z_aloadn7, Z_istore7, Z_astore7, Z_astoreq7, Z_astoren7, Z_iinc7, Z_iload8, Z_aload8, Z_aloadq8, Z_aloadn8, Z_istore8, Z_astore8, Z_astoreq8, Z_astoren8, Z_iinc8, Z_iload9, Z_aload9, Z_aloadq9, Z_aloadn9, Z_istore9, Z_astore9, Z_astoreq9, Z_astoren9, Z_iinc9, Z_iload10, Z_aload10, Z_aloadq10, Z_aloadn10, Z_istore10, Z_astore10, Z_astoreq10, Z_astoren10, Z_iinc10, Z_iload11, Z_aload11, Z_aloadq11, Z_aloadn11, Z_istore11, Z_astore11, Z_astoreq11, Z_astoren11, Z_iinc11, Z_iload12, Z_aload12, Z_aloadq12, Z_aloadn12, Z_istore12, Z_astore12, Z_astoreq12, Z_astoren12, Z_iinc12, Z_iadd, Z_isub, Z_imul, Z_iand, Z_ior, Z_ishl, Z_ishr, Z_iushr, Z_idiv, Z_irem, Z_dup, Z_dupx1, Z_dup2, Z_pop, Z_if_eq, Z_icmp_eq, Z_if_ne, Z_icmp_ne, Z_if_lt, Z_icmp_lt, Z_if_le, Z_icmp_le, Z_if_ge, Z_icmp_ge, Z_if_gt, Z_icmp_gt, Z_acmp_eqq1, Z_acmp_eqq2, Z_acmp_eqq3, Z_acmp_eqq4, Z_acmp_neq1, Z_acmp_neq2, Z_acmp_neq3, Z_acmp_neq4, Z_ifnull, Z_ifnullN, Z_ifnullq, Z_ifnonnull, Z_ifnonnullN, Z_ifnonnullq, Z_goto, Z_getI, Z_getZ, Z_getR, Z_putI, Z_putR, Z_putN, Z_putQ, Z_putZ, Z_new, Z_newarray, Z_anewarray, Z_alen, Z_cast, Z_objInit, Z_clone, Z_getClass, Z_copy, Z_max, Z_min, Y_iaload, Y_baload, Y_aaload, Y_iastore, Y_bastore, Y_aastore, Y_aastoreN, lt_0p, lt_1n, va_some, va_none, Option.toList_some, Option.toList_none, List.nil_append, List.cons_append, List.length_nil, List.length_cons, true_and, and_true, if_true, if_false, ite_true, ite_false, Nat.zero_le, Nat.not_lt_zero, Nat.reduceLeDiff, Nat.reduceEqDiff, Nat.reduceAdd, Nat.reduceMul, Nat.reduceSub, Nat.reduceLT, Nat.zero_add, not_true_eq_false, not_false_eq_true, true_or, or_true, false_or, or_false, Nat.add_zero, false_and, and_false, exists_eq_left', Option.some.injEq, k_X9_was_0, Q_X9_was_0, Q_X9_was_1, E_X9_was, nI_add, pk_mul, ar_lt, ar_le, ar_eq, z_lt, z_le, z_gt, z_ge, z_eq, z_eq2, ix_nI, nI_clamp, ne_eq, hM.k0, hM.f1, hM.k1, hM.l1, hM.f2, hM.k2, hM.l2, hM.f3, hM.k3, hM.l3, hM.f4, hM.k4, hM.l4, hM.f5, hM.k5, hM.l5, hM.f6, hM.k6, hM.l6, hM.f7, hM.k7, hM.l7, hM.f8, hM.k8, hM.l8, hM.f9, hM.k9, hM.l9, hM.f10, hM.k10, hM.l10, hM.f11, hM.k11, hM.l11, hM.f12, hM.k12, hM.l12, hM.f13, hM.k13, hM.l13, hM.f14, hM.k14, hM.l14, hM.f15, hM.k15, hM.l15, hM.f16, hM.k16, hM.l16, hM.f17, hM.k17, hM.l17, hM.f18, hM.k18, hM.l18, hM.f19, hM.k19, hM.l19, hM.f20, hM.k20, hM.l20, hM.f21, hM.k21, hM.l21, hM.f22, hM.k22, hM.l22, hM.f23, hM.k23, hM.l23, hR.c13 r o hr ho]
  by_cases hd : o ∈ sDn s r
  · rw [decide_eq_true hd]
    simp (disch := first | omega | assumption) only [Z_iconst, Z_bipush, Z_sipush, Z_ldc, Z_ldcM, Z_ldcw, Z_null, Z_getstatic, Z_iload0, Z_aload0, Z_aloadq0, Z_aloadn0, Z_istore0, Z_astore0, Z_astoreq0, Z_astoren0, Z_iinc0, Z_iload1, Z_aload1, Z_aloadq1, Z_aloadn1, Z_istore1, Z_astore1, Z_astoreq1, Z_astoren1, Z_iinc1, Z_iload2, Z_aload2, Z_aloadq2, Z_aloadn2, Z_istore2, Z_astore2, Z_astoreq2, Z_astoren2, Z_iinc2, Z_iload3, Z_aload3, Z_aloadq3, Z_aloadn3, Z_istore3, Z_astore3, Z_astoreq3, Z_astoren3, Z_iinc3, Z_iload4, Z_aload4, Z_aloadq4, Z_aloadn4, Z_istore4, Z_astore4, Z_astoreq4, Z_astoren4, Z_iinc4, Z_iload5, Z_aload5, Z_aloadq5, Z_aloadn5, Z_istore5, Z_astore5, Z_astoreq5, Z_astoren5, Z_iinc5, Z_iload6, Z_aload6, Z_aloadq6, Z_aloadn6, Z_istore6, Z_astore6, Z_astoreq6, Z_astoren6, Z_iinc6, Z_iload7, Z_aload7, Z_aloadq7, Z_aloadn7, Z_istore7, Z_astore7, Z_astoreq7, Z_astoren7, Z_iinc7, Z_iload8, Z_aload8, Z_aloadq8, Z_aloadn8, Z_istore8, Z_astore8, Z_astoreq8, Z_astoren8, Z_iinc8, Z_iload9, Z_aload9, Z_aloadq9, Z_aloadn9, Z_istore9, Z_astore9, Z_astoreq9, Z_astoren9, Z_iinc9, Z_iload10, Z_aload10, Z_aloadq10, Z_aloadn10, Z_istore10, Z_astore10, Z_astoreq10, Z_astoren10, Z_iinc10, Z_iload11, Z_aload11, Z_aloadq11, Z_aloadn11, Z_istore11, Z_astore11, Z_astoreq11, Z_astoren11, Z_iinc11, Z_iload12, Z_aload12, Z_aloadq12, Z_aloadn12, Z_istore12, Z_astore12, Z_astoreq12, Z_astoren12, Z_iinc12, Z_iadd, Z_isub, Z_imul, Z_iand, Z_ior, Z_ishl, Z_ishr, Z_iushr, Z_idiv, Z_irem, Z_dup, Z_dupx1, Z_dup2, Z_pop, Z_if_eq, Z_icmp_eq, Z_if_ne, Z_icmp_ne, Z_if_lt, Z_icmp_lt, Z_if_le, Z_icmp_le, Z_if_ge, Z_icmp_ge, Z_if_gt, Z_icmp_gt, Z_acmp_eqq1, Z_acmp_eqq2, Z_acmp_eqq3, Z_acmp_eqq4, Z_acmp_neq1, Z_acmp_neq2, Z_acmp_neq3, Z_acmp_neq4, Z_ifnull, Z_ifnullN, Z_ifnullq, Z_ifnonnull, Z_ifnonnullN, Z_ifnonnullq, Z_goto, Z_getI, Z_getZ, Z_getR, Z_putI, Z_putR, Z_putN, Z_putQ, Z_putZ, Z_new, Z_newarray, Z_anewarray, Z_alen, Z_cast, Z_objInit, Z_clone, Z_getClass, Z_copy, Z_max, Z_min, Y_iaload, Y_baload, Y_aaload, Y_iastore, Y_bastore, Y_aastore, Y_aastoreN, lt_0p, lt_1n, va_some, va_none, Option.toList_some, Option.toList_none, List.nil_append, List.cons_append, List.length_nil, List.length_cons, true_and, and_true, if_true, if_false, ite_true, ite_false, Nat.zero_le, Nat.not_lt_zero, Nat.reduceLeDiff, Nat.reduceEqDiff, Nat.reduceAdd, Nat.reduceMul, Nat.reduceSub, Nat.reduceLT, Nat.zero_add, not_true_eq_false, not_false_eq_true, true_or, or_true, false_or, or_false, Nat.add_zero, false_and, and_false, exists_eq_left', Option.some.injEq, k_X9_was_0, Q_X9_was_0, Q_X9_was_1, nb]
  · rw [decide_eq_false hd]
    simp (disch := first | omega | assumption) only [Z_iconst, Z_bipush, Z_sipush, Z_ldc, Z_ldcM, Z_ldcw, Z_null, Z_getstatic, Z_iload0, Z_aload0, Z_aloadq0, Z_aloadn0, Z_istore0, Z_astore0, Z_astoreq0, Z_astoren0, Z_iinc0, Z_iload1, Z_aload1, Z_aloadq1, Z_aloadn1, Z_istore1, Z_astore1, Z_astoreq1, Z_astoren1, Z_iinc1, Z_iload2, Z_aload2, Z_aloadq2, Z_aloadn2, Z_istore2, Z_astore2, Z_astoreq2, Z_astoren2, Z_iinc2, Z_iload3, Z_aload3, Z_aloadq3, Z_aloadn3, Z_istore3, Z_astore3, Z_astoreq3, Z_astoren3, Z_iinc3, Z_iload4, Z_aload4, Z_aloadq4, Z_aloadn4, Z_istore4, Z_astore4, Z_astoreq4, Z_astoren4, Z_iinc4, Z_iload5, Z_aload5, Z_aloadq5, Z_aloadn5, Z_istore5, Z_astore5, Z_astoreq5, Z_astoren5, Z_iinc5, Z_iload6, Z_aload6, Z_aloadq6, Z_aloadn6, Z_istore6, Z_astore6, Z_astoreq6, Z_astoren6, Z_iinc6, Z_iload7, Z_aload7, Z_aloadq7, Z_aloadn7, Z_istore7, Z_astore7, Z_astoreq7, Z_astoren7, Z_iinc7, Z_iload8, Z_aload8, Z_aloadq8, Z_aloadn8, Z_istore8, Z_astore8, Z_astoreq8, Z_astoren8, Z_iinc8, Z_iload9, Z_aload9, Z_aloadq9, Z_aloadn9, Z_istore9, Z_astore9, Z_astoreq9, Z_astoren9, Z_iinc9, Z_iload10, Z_aload10, Z_aloadq10, Z_aloadn10, Z_istore10, Z_astore10, Z_astoreq10, Z_astoren10, Z_iinc10, Z_iload11, Z_aload11, Z_aloadq11, Z_aloadn11, Z_istore11, Z_astore11, Z_astoreq11, Z_astoren11, Z_iinc11, Z_iload12, Z_aload12, Z_aloadq12, Z_aloadn12, Z_istore12, Z_astore12, Z_astoreq12, Z_astoren12, Z_iinc12, Z_iadd, Z_isub, Z_imul, Z_iand, Z_ior, Z_ishl, Z_ishr, Z_iushr, Z_idiv, Z_irem, Z_dup, Z_dupx1, Z_dup2, Z_pop, Z_if_eq, Z_icmp_eq, Z_if_ne, Z_icmp_ne, Z_if_lt, Z_icmp_lt, Z_if_le, Z_icmp_le, Z_if_ge, Z_icmp_ge, Z_if_gt, Z_icmp_gt, Z_acmp_eqq1, Z_acmp_eqq2, Z_acmp_eqq3, Z_acmp_eqq4, Z_acmp_neq1, Z_acmp_neq2, Z_acmp_neq3, Z_acmp_neq4, Z_ifnull, Z_ifnullN, Z_ifnullq, Z_ifnonnull, Z_ifnonnullN, Z_ifnonnullq, Z_goto, Z_getI, Z_getZ, Z_getR, Z_putI, Z_putR, Z_putN, Z_putQ, Z_putZ, Z_new, Z_newarray, Z_anewarray, Z_alen, Z_cast, Z_objInit, Z_clone, Z_getClass, Z_copy, Z_max, Z_min, Y_iaload, Y_baload, Y_aaload, Y_iastore, Y_bastore, Y_aastore, Y_aastoreN, lt_0p, lt_1n, va_some, va_none, Option.toList_some, Option.toList_none, List.nil_append, List.cons_append, List.length_nil, List.length_cons, true_and, and_true, if_true, if_false, ite_true, ite_false, Nat.zero_le, Nat.not_lt_zero, Nat.reduceLeDiff, Nat.reduceEqDiff, Nat.reduceAdd, Nat.reduceMul, Nat.reduceSub, Nat.reduceLT, Nat.zero_add, not_true_eq_false, not_false_eq_true, true_or, or_true, false_or, or_false, Nat.add_zero, false_and, and_false, exists_eq_left', Option.some.injEq, k_X9_was_0, Q_X9_was_0, Q_X9_was_1, nb, Bool.false_eq_true]
def kno (s : St) (r i j : Nat) : Nat := if r = i then sOw s r j else sKw s r i j
theorem e_knows {g r i j : Nat} {h : Hp} {s : St} {P : Option Value → Hp → Prop} (hM : ML g h) (hR : MR g h s) (hr : r < 4) (hi : i < 4) (hj : j < 4) : Ev M_X9_knowsOf [.ref g, .int (nI r), .int (nI i), .int (nI j)] h P ↔ P (some (.int (nI (kno s r i j)))) h := by
  rw [e_knowsOf g r i j hr hi hj h P hM, hR.c9 r j hr hj, hR.c16 r i j hr hi hj]
  unfold kno
  split <;> exact Iff.rfl
theorem kno_le {s : St} (hB : Bd s) {r i j : Nat} (hr : r < 4) (hi : i < 4) (hj : j < 4) : kno s r i j ≤ 60 := by
  unfold kno
  have h1 := hB.2.2.1 r hr
  split
  · exact h1.2.2.2.2.2.1 j hj
  · exact h1.2.2.2.2.2.2 i j hi hj
/-- is a operation in r's log (of what was done) -/
def lgd (s : St) (r o : Nat) : Bool := decide (kno s r 0 (o / 60) < o % 60 + 1 ∨ kno s r 1 (o / 60) < o % 60 + 1 ∨ kno s r 2 (o / 60) < o % 60 + 1 ∨ kno s r 3 (o / 60) < o % 60 + 1)
theorem e_isLogged {g r o : Nat} {h : Hp} {s : St} {P : Option Value → Hp → Prop} (hM : ML g h) (hR : MR g h s) (hB : Bd s) (hr : r < 4) (ho : o < 240) : Ev M_X9_isLogged [.ref g, .int (nI r), .int (nI o)] h P ↔ P (some (.int (nI (nb (lgd s r o))))) h := by
  have k0 := kno_le hB hr (show 0 < 4 by decide) (show o / 60 < 4 by omega)
  have k1 := kno_le hB hr (show 1 < 4 by decide) (show o / 60 < 4 by omega)
  have k2 := kno_le hB hr (show 2 < 4 by decide) (show o / 60 < 4 by omega)
  have k3 := kno_le hB hr (show 3 < 4 by decide) (show o / 60 < 4 by omega)
  have e0 : ∀ i, i < 4 → ∀ Q, (Ev M_X9_knowsOf [.ref g, .int (nI r), .int (nI i), .int (nI (o / 60))] h Q ↔ Q (some (.int (nI (kno s r i (o / 60))))) h) := fun i hi Q => e_knows hM hR hr hi (by omega)
  simp (disch := first | omega | assumption) only [Z_iconst, Z_bipush, Z_sipush, Z_ldc, Z_ldcM, Z_ldcw, Z_null, Z_getstatic, Z_iload0, Z_aload0, Z_aloadq0, Z_aloadn0, Z_istore0, Z_astore0, Z_astoreq0, Z_astoren0, Z_iinc0, Z_iload1, Z_aload1, Z_aloadq1, Z_aloadn1, Z_istore1, Z_astore1, Z_astoreq1, Z_astoren1, Z_iinc1, Z_iload2, Z_aload2, Z_aloadq2, Z_aloadn2, Z_istore2, Z_astore2, Z_astoreq2, Z_astoren2, Z_iinc2, Z_iload3, Z_aload3, Z_aloadq3, Z_aloadn3, Z_istore3, Z_astore3, Z_astoreq3, Z_astoren3, Z_iinc3, Z_iload4, Z_aload4, Z_aloadq4, Z_aloadn4, Z_istore4, Z_astore4, Z_astoreq4, Z_astoren4, Z_iinc4, Z_iload5, Z_aload5, Z_aloadq5, Z_aloadn5, Z_istore5, Z_astore5, Z_astoreq5, Z_astoren5, Z_iinc5, Z_iload6, Z_aload6, Z_aloadq6, Z_aloadn6, Z_istore6, Z_astore6, Z_astoreq6, Z_astoren6, Z_iinc6, Z_iload7, Z_aload7, Z_aloadq7, Z_aloadn7, Z_istore7, Z_astore7, Z_astoreq7, Z_astoren7, Z_iinc7, Z_iload8, Z_aload8, Z_aloadq8, Z_aloadn8, Z_istore8, Z_astore8, Z_astoreq8, Z_astoren8, Z_iinc8, Z_iload9, Z_aload9, Z_aloadq9, Z_aloadn9, Z_istore9, Z_astore9, Z_astoreq9, Z_astoren9, Z_iinc9, Z_iload10, Z_aload10, Z_aloadq10, Z_aloadn10, Z_istore10, Z_astore10, Z_astoreq10, Z_astoren10, Z_iinc10, Z_iload11, Z_aload11, Z_aloadq11, Z_aloadn11, Z_istore11, Z_astore11, Z_astoreq11, Z_astoren11, Z_iinc11, Z_iload12, Z_aload12, Z_aloadq12, Z_aloadn12, Z_istore12, Z_astore12, Z_astoreq12, Z_astoren12, Z_iinc12, Z_iadd, Z_isub, Z_imul, Z_iand, Z_ior, Z_ishl, Z_ishr, Z_iushr, Z_idiv, Z_irem, Z_dup, Z_dupx1, Z_dup2, Z_pop, Z_if_eq, Z_icmp_eq, Z_if_ne, Z_icmp_ne, Z_if_lt, Z_icmp_lt, Z_if_le, Z_icmp_le, Z_if_ge, Z_icmp_ge, Z_if_gt, Z_icmp_gt, Z_acmp_eqq1, Z_acmp_eqq2, Z_acmp_eqq3, Z_acmp_eqq4, Z_acmp_neq1, Z_acmp_neq2, Z_acmp_neq3, Z_acmp_neq4, Z_ifnull, Z_ifnullN, Z_ifnullq, Z_ifnonnull, Z_ifnonnullN, Z_ifnonnullq, Z_goto, Z_getI, Z_getZ, Z_getR, Z_putI, Z_putR, Z_putN, Z_putQ, Z_putZ, Z_new, Z_newarray, Z_anewarray, Z_alen, Z_cast, Z_objInit, Z_clone, Z_getClass, Z_copy, Z_max, Z_min, Y_iaload, Y_baload, Y_aaload, Y_iastore, Y_bastore, Y_aastore, Y_aastoreN, lt_0p, lt_1n, va_some, va_none, Option.toList_some, Option.toList_none, List.nil_append, List.cons_append, List.length_nil, List.length_cons, true_and, and_true, if_true, if_false, ite_true, ite_false, Nat.zero_le, Nat.not_lt_zero, Nat.reduceLeDiff, Nat.reduceEqDiff, Nat.reduceAdd, Nat.reduceMul, Nat.reduceSub, Nat.reduceLT, Nat.zero_add, not_true_eq_false, not_false_eq_true, true_or, or_true, false_or, or_false, Nat.add_zero, false_and, and_false, exists_eq_left', Option.some.injEq, k_X9_isLogged_0, sk_X9_isLogged_2, k_X9_isLogged_2, sk_X9_isLogged_26, k_X9_isLogged_26, sk_X9_isLogged_32, k_X9_isLogged_32, Q_X9_isLogged_0, Q_X9_isLogged_1, C_X9_ownerOf, C_X9_knowsOf, C_X9_numberOf, E_X9_isLogged, nI_add, pk_mul, ar_lt, ar_le, ar_eq, z_lt, z_le, z_gt, z_ge, z_eq, z_eq2, ix_nI, nI_clamp, ne_eq, hM.k0, hM.f1, hM.k1, hM.l1, hM.f2, hM.k2, hM.l2, hM.f3, hM.k3, hM.l3, hM.f4, hM.k4, hM.l4, hM.f5, hM.k5, hM.l5, hM.f6, hM.k6, hM.l6, hM.f7, hM.k7, hM.l7, hM.f8, hM.k8, hM.l8, hM.f9, hM.k9, hM.l9, hM.f10, hM.k10, hM.l10, hM.f11, hM.k11, hM.l11, hM.f12, hM.k12, hM.l12, hM.f13, hM.k13, hM.l13, hM.f14, hM.k14, hM.l14, hM.f15, hM.k15, hM.l15, hM.f16, hM.k16, hM.l16, hM.f17, hM.k17, hM.l17, hM.f18, hM.k18, hM.l18, hM.f19, hM.k19, hM.l19, hM.f20, hM.k20, hM.l20, hM.f21, hM.k21, hM.l21, hM.f22, hM.k22, hM.l22, hM.f23, hM.k23, hM.l23, e_ownerOf o ho, e_numberOf o ho, e0 0 (by decide), e0 1 (by decide), e0 2 (by decide), e0 3 (by decide)]
  unfold lgd nb
  simp only [decide_eq_true_eq]
  (repeat' split) <;> first | exact Iff.rfl | (exfalso; omega)
/-- is an operation ready at r -/
def rdyF (s : St) (r o : Nat) : Nat → Nat → Bool
  | 0, _ => true
  | n + 1, j => (decide (j = o / 60) || decide (sCk s o j ≤ sOw s r j)) && rdyF s r o n (j + 1)
def rdy (s : St) (r o : Nat) : Bool := decide (o % 60 + 1 = sOw s r (o / 60) + 1) && rdyF s r o 4 0
theorem l_isReady {g r o : Nat} {h : Hp} {s : St} {P : Option Value → Hp → Prop} (hM : ML g h) (hR : MR g h s) (hB : Bd s) (hr : r < 4) (ho : o < 240) : ∀ (n j : Nat) (c : Bool), j + n = 4 → (Z M_X9_isReady k_X9_isReady_34 [some (.ref g), some (.int (nI r)), some (.int (nI o)), some (.int (nI (o / 60))), some (.int (nI (nb c))), some (.int (nI j))] [] h P ↔ P (some (.int (nI (nb (c && rdyF s r o n j))))) h) := by
  intro n
  induction n with
  | zero =>
    intro j c hj
    obtain rfl : j = 4 := by omega
    cases c <;> (rw [k_X9_isReady_34]; simp (disch := first | omega | assumption) only [Z_iconst, Z_bipush, Z_sipush, Z_ldc, Z_ldcM, Z_ldcw, Z_null, Z_getstatic, Z_iload0, Z_aload0, Z_aloadq0, Z_aloadn0, Z_istore0, Z_astore0, Z_astoreq0, Z_astoren0, Z_iinc0, Z_iload1, Z_aload1, Z_aloadq1, Z_aloadn1, Z_istore1, Z_astore1, Z_astoreq1, Z_astoren1, Z_iinc1, Z_iload2, Z_aload2, Z_aloadq2, Z_aloadn2, Z_istore2, Z_astore2, Z_astoreq2, Z_astoren2, Z_iinc2, Z_iload3, Z_aload3, Z_aloadq3, Z_aloadn3, Z_istore3, Z_astore3, Z_astoreq3, Z_astoren3, Z_iinc3, Z_iload4, Z_aload4, Z_aloadq4, Z_aloadn4, Z_istore4, Z_astore4, Z_astoreq4, Z_astoren4, Z_iinc4, Z_iload5, Z_aload5, Z_aloadq5, Z_aloadn5, Z_istore5, Z_astore5, Z_astoreq5, Z_astoren5, Z_iinc5, Z_iload6, Z_aload6, Z_aloadq6, Z_aloadn6, Z_istore6, Z_astore6, Z_astoreq6, Z_astoren6, Z_iinc6, Z_iload7, Z_aload7, Z_aloadq7, Z_aloadn7, Z_istore7, Z_astore7, Z_astoreq7, Z_astoren7, Z_iinc7, Z_iload8, Z_aload8, Z_aloadq8, Z_aloadn8, Z_istore8, Z_astore8, Z_astoreq8, Z_astoren8, Z_iinc8, Z_iload9, Z_aload9, Z_aloadq9, Z_aloadn9, Z_istore9, Z_astore9, Z_astoreq9, Z_astoren9, Z_iinc9, Z_iload10, Z_aload10, Z_aloadq10, Z_aloadn10, Z_istore10, Z_astore10, Z_astoreq10, Z_astoren10, Z_iinc10, Z_iload11, Z_aload11, Z_aloadq11, Z_aloadn11, Z_istore11, Z_astore11, Z_astoreq11, Z_astoren11, Z_iinc11, Z_iload12, Z_aload12, Z_aloadq12, Z_aloadn12, Z_istore12, Z_astore12, Z_astoreq12, Z_astoren12, Z_iinc12, Z_iadd, Z_isub, Z_imul, Z_iand, Z_ior, Z_ishl, Z_ishr, Z_iushr, Z_idiv, Z_irem, Z_dup, Z_dupx1, Z_dup2, Z_pop, Z_if_eq, Z_icmp_eq, Z_if_ne, Z_icmp_ne, Z_if_lt, Z_icmp_lt, Z_if_le, Z_icmp_le, Z_if_ge, Z_icmp_ge, Z_if_gt, Z_icmp_gt, Z_acmp_eqq1, Z_acmp_eqq2, Z_acmp_eqq3, Z_acmp_eqq4, Z_acmp_neq1, Z_acmp_neq2, Z_acmp_neq3, Z_acmp_neq4, Z_ifnull, Z_ifnullN, Z_ifnullq, Z_ifnonnull, Z_ifnonnullN, Z_ifnonnullq, Z_goto, Z_getI, Z_getZ, Z_getR, Z_putI, Z_putR, Z_putN, Z_putQ, Z_putZ, Z_new, Z_newarray, Z_anewarray, Z_alen, Z_cast, Z_objInit, Z_clone, Z_getClass, Z_copy, Z_max, Z_min, Y_iaload, Y_baload, Y_aaload, Y_iastore, Y_bastore, Y_aastore, Y_aastoreN, lt_0p, lt_1n, va_some, va_none, Option.toList_some, Option.toList_none, List.nil_append, List.cons_append, List.length_nil, List.length_cons, true_and, and_true, if_true, if_false, ite_true, ite_false, Nat.zero_le, Nat.not_lt_zero, Nat.reduceLeDiff, Nat.reduceEqDiff, Nat.reduceAdd, Nat.reduceMul, Nat.reduceSub, Nat.reduceLT, Nat.zero_add, not_true_eq_false, not_false_eq_true, true_or, or_true, false_or, or_false, Nat.add_zero, false_and, and_false, exists_eq_left', Option.some.injEq, k_X9_isReady_0, sk_X9_isReady_28, k_X9_isReady_28, sk_X9_isReady_29, k_X9_isReady_29, sk_X9_isReady_34, sk_X9_isReady_76, k_X9_isReady_76, sk_X9_isReady_80, k_X9_isReady_80, sk_X9_isReady_81, k_X9_isReady_81, sk_X9_isReady_89, k_X9_isReady_89, Q_X9_isReady_0, Q_X9_isReady_1, C_X9_ownerOf, C_X9_numberOf, nI_add, pk_mul, ar_lt, ar_le, ar_eq, z_lt, z_le, z_gt, z_ge, z_eq, z_eq2, ix_nI, nI_clamp, ne_eq, nb, rdyF, Bool.false_eq_true, Bool.true_and, Bool.false_and])
  | succ n ih =>
    intro j c hj
    have hj4 : j < 4 := by omega
    have e1 := hR.c7 o j ho hj4
    have e2 := hR.c9 r j hr hj4
    have b1 := (hB.2.1 o ho).2.2.2.2 j hj4
    have b2 := (hB.2.2.1 r hr).2.2.2.2.2.1 j hj4
    cases c with
    | false =>
      have := ih (j + 1) false (by omega)
      simp only [nb, Bool.false_eq_true, if_false, Bool.false_and] at this
      rw [k_X9_isReady_34]
      simp (disch := first | omega | assumption) only [Z_iconst, Z_bipush, Z_sipush, Z_ldc, Z_ldcM, Z_ldcw, Z_null, Z_getstatic, Z_iload0, Z_aload0, Z_aloadq0, Z_aloadn0, Z_istore0, Z_astore0, Z_astoreq0, Z_astoren0, Z_iinc0, Z_iload1, Z_aload1, Z_aloadq1, Z_aloadn1, Z_istore1, Z_astore1, Z_astoreq1, Z_astoren1, Z_iinc1, Z_iload2, Z_aload2, Z_aloadq2, Z_aloadn2, Z_istore2, Z_astore2, Z_astoreq2, Z_astoren2, Z_iinc2, Z_iload3, Z_aload3, Z_aloadq3, Z_aloadn3, Z_istore3, Z_astore3, Z_astoreq3, Z_astoren3, Z_iinc3, Z_iload4, Z_aload4, Z_aloadq4, Z_aloadn4, Z_istore4, Z_astore4, Z_astoreq4, Z_astoren4, Z_iinc4, Z_iload5, Z_aload5, Z_aloadq5, Z_aloadn5, Z_istore5, Z_astore5, Z_astoreq5, Z_astoren5, Z_iinc5, Z_iload6, Z_aload6, Z_aloadq6, Z_aloadn6, Z_istore6, Z_astore6, Z_astoreq6, Z_astoren6, Z_iinc6, Z_iload7, Z_aload7, Z_aloadq7, Z_aloadn7, Z_istore7, Z_astore7, Z_astoreq7, Z_astoren7, Z_iinc7, Z_iload8, Z_aload8, Z_aloadq8, Z_aloadn8, Z_istore8, Z_astore8, Z_astoreq8, Z_astoren8, Z_iinc8, Z_iload9, Z_aload9, Z_aloadq9, Z_aloadn9, Z_istore9, Z_astore9, Z_astoreq9, Z_astoren9, Z_iinc9, Z_iload10, Z_aload10, Z_aloadq10, Z_aloadn10, Z_istore10, Z_astore10, Z_astoreq10, Z_astoren10, Z_iinc10, Z_iload11, Z_aload11, Z_aloadq11, Z_aloadn11, Z_istore11, Z_astore11, Z_astoreq11, Z_astoren11, Z_iinc11, Z_iload12, Z_aload12, Z_aloadq12, Z_aloadn12, Z_istore12, Z_astore12, Z_astoreq12, Z_astoren12, Z_iinc12, Z_iadd, Z_isub, Z_imul, Z_iand, Z_ior, Z_ishl, Z_ishr, Z_iushr, Z_idiv, Z_irem, Z_dup, Z_dupx1, Z_dup2, Z_pop, Z_if_eq, Z_icmp_eq, Z_if_ne, Z_icmp_ne, Z_if_lt, Z_icmp_lt, Z_if_le, Z_icmp_le, Z_if_ge, Z_icmp_ge, Z_if_gt, Z_icmp_gt, Z_acmp_eqq1, Z_acmp_eqq2, Z_acmp_eqq3, Z_acmp_eqq4, Z_acmp_neq1, Z_acmp_neq2, Z_acmp_neq3, Z_acmp_neq4, Z_ifnull, Z_ifnullN, Z_ifnullq, Z_ifnonnull, Z_ifnonnullN, Z_ifnonnullq, Z_goto, Z_getI, Z_getZ, Z_getR, Z_putI, Z_putR, Z_putN, Z_putQ, Z_putZ, Z_new, Z_newarray, Z_anewarray, Z_alen, Z_cast, Z_objInit, Z_clone, Z_getClass, Z_copy, Z_max, Z_min, Y_iaload, Y_baload, Y_aaload, Y_iastore, Y_bastore, Y_aastore, Y_aastoreN, lt_0p, lt_1n, va_some, va_none, Option.toList_some, Option.toList_none, List.nil_append, List.cons_append, List.length_nil, List.length_cons, true_and, and_true, if_true, if_false, ite_true, ite_false, Nat.zero_le, Nat.not_lt_zero, Nat.reduceLeDiff, Nat.reduceEqDiff, Nat.reduceAdd, Nat.reduceMul, Nat.reduceSub, Nat.reduceLT, Nat.zero_add, not_true_eq_false, not_false_eq_true, true_or, or_true, false_or, or_false, Nat.add_zero, false_and, and_false, exists_eq_left', Option.some.injEq, k_X9_isReady_0, sk_X9_isReady_28, k_X9_isReady_28, sk_X9_isReady_29, k_X9_isReady_29, sk_X9_isReady_34, sk_X9_isReady_76, k_X9_isReady_76, sk_X9_isReady_80, k_X9_isReady_80, sk_X9_isReady_81, k_X9_isReady_81, sk_X9_isReady_89, k_X9_isReady_89, Q_X9_isReady_0, Q_X9_isReady_1, C_X9_ownerOf, C_X9_numberOf, nI_add, pk_mul, ar_lt, ar_le, ar_eq, z_lt, z_le, z_gt, z_ge, z_eq, z_eq2, ix_nI, nI_clamp, ne_eq, hM.k0, hM.f1, hM.k1, hM.l1, hM.f2, hM.k2, hM.l2, hM.f3, hM.k3, hM.l3, hM.f4, hM.k4, hM.l4, hM.f5, hM.k5, hM.l5, hM.f6, hM.k6, hM.l6, hM.f7, hM.k7, hM.l7, hM.f8, hM.k8, hM.l8, hM.f9, hM.k9, hM.l9, hM.f10, hM.k10, hM.l10, hM.f11, hM.k11, hM.l11, hM.f12, hM.k12, hM.l12, hM.f13, hM.k13, hM.l13, hM.f14, hM.k14, hM.l14, hM.f15, hM.k15, hM.l15, hM.f16, hM.k16, hM.l16, hM.f17, hM.k17, hM.l17, hM.f18, hM.k18, hM.l18, hM.f19, hM.k19, hM.l19, hM.f20, hM.k20, hM.l20, hM.f21, hM.k21, hM.l21, hM.f22, hM.k22, hM.l22, hM.f23, hM.k23, hM.l23, nb, Bool.false_eq_true, Bool.false_and, show ¬ 4 ≤ j by omega, this]
    | true =>
      have t1 := ih (j + 1) true (by omega)
      have t2 := ih (j + 1) false (by omega)
      simp only [nb, if_true, Bool.true_and, Bool.false_and, Bool.false_eq_true, if_false] at t1 t2
      rw [k_X9_isReady_34]
      simp only [rdyF]
      by_cases c1 : j = o / 60
      · simp (disch := first | omega | assumption) only [Z_iconst, Z_bipush, Z_sipush, Z_ldc, Z_ldcM, Z_ldcw, Z_null, Z_getstatic, Z_iload0, Z_aload0, Z_aloadq0, Z_aloadn0, Z_istore0, Z_astore0, Z_astoreq0, Z_astoren0, Z_iinc0, Z_iload1, Z_aload1, Z_aloadq1, Z_aloadn1, Z_istore1, Z_astore1, Z_astoreq1, Z_astoren1, Z_iinc1, Z_iload2, Z_aload2, Z_aloadq2, Z_aloadn2, Z_istore2, Z_astore2, Z_astoreq2, Z_astoren2, Z_iinc2, Z_iload3, Z_aload3, Z_aloadq3, Z_aloadn3, Z_istore3, Z_astore3, Z_astoreq3, Z_astoren3, Z_iinc3, Z_iload4, Z_aload4, Z_aloadq4, Z_aloadn4, Z_istore4, Z_astore4, Z_astoreq4, Z_astoren4, Z_iinc4, Z_iload5, Z_aload5, Z_aloadq5, Z_aloadn5, Z_istore5, Z_astore5, Z_astoreq5, Z_astoren5, Z_iinc5, Z_iload6, Z_aload6, Z_aloadq6, Z_aloadn6, Z_istore6, Z_astore6, Z_astoreq6, Z_astoren6, Z_iinc6, Z_iload7, Z_aload7, Z_aloadq7, Z_aloadn7, Z_istore7, Z_astore7, Z_astoreq7, Z_astoren7, Z_iinc7, Z_iload8, Z_aload8, Z_aloadq8, Z_aloadn8, Z_istore8, Z_astore8, Z_astoreq8, Z_astoren8, Z_iinc8, Z_iload9, Z_aload9, Z_aloadq9, Z_aloadn9, Z_istore9, Z_astore9, Z_astoreq9, Z_astoren9, Z_iinc9, Z_iload10, Z_aload10, Z_aloadq10, Z_aloadn10, Z_istore10, Z_astore10, Z_astoreq10, Z_astoren10, Z_iinc10, Z_iload11, Z_aload11, Z_aloadq11, Z_aloadn11, Z_istore11, Z_astore11, Z_astoreq11, Z_astoren11, Z_iinc11, Z_iload12, Z_aload12, Z_aloadq12, Z_aloadn12, Z_istore12, Z_astore12, Z_astoreq12, Z_astoren12, Z_iinc12, Z_iadd, Z_isub, Z_imul, Z_iand, Z_ior, Z_ishl, Z_ishr, Z_iushr, Z_idiv, Z_irem, Z_dup, Z_dupx1, Z_dup2, Z_pop, Z_if_eq, Z_icmp_eq, Z_if_ne, Z_icmp_ne, Z_if_lt, Z_icmp_lt, Z_if_le, Z_icmp_le, Z_if_ge, Z_icmp_ge, Z_if_gt, Z_icmp_gt, Z_acmp_eqq1, Z_acmp_eqq2, Z_acmp_eqq3, Z_acmp_eqq4, Z_acmp_neq1, Z_acmp_neq2, Z_acmp_neq3, Z_acmp_neq4, Z_ifnull, Z_ifnullN, Z_ifnullq, Z_ifnonnull, Z_ifnonnullN, Z_ifnonnullq, Z_goto, Z_getI, Z_getZ, Z_getR, Z_putI, Z_putR, Z_putN, Z_putQ, Z_putZ, Z_new, Z_newarray, Z_anewarray, Z_alen, Z_cast, Z_objInit, Z_clone, Z_getClass, Z_copy, Z_max, Z_min, Y_iaload, Y_baload, Y_aaload, Y_iastore, Y_bastore, Y_aastore, Y_aastoreN, lt_0p, lt_1n, va_some, va_none, Option.toList_some, Option.toList_none, List.nil_append, List.cons_append, List.length_nil, List.length_cons, true_and, and_true, if_true, if_false, ite_true, ite_false, Nat.zero_le, Nat.not_lt_zero, Nat.reduceLeDiff, Nat.reduceEqDiff, Nat.reduceAdd, Nat.reduceMul, Nat.reduceSub, Nat.reduceLT, Nat.zero_add, not_true_eq_false, not_false_eq_true, true_or, or_true, false_or, or_false, Nat.add_zero, false_and, and_false, exists_eq_left', Option.some.injEq, k_X9_isReady_0, sk_X9_isReady_28, k_X9_isReady_28, sk_X9_isReady_29, k_X9_isReady_29, sk_X9_isReady_34, sk_X9_isReady_76, k_X9_isReady_76, sk_X9_isReady_80, k_X9_isReady_80, sk_X9_isReady_81, k_X9_isReady_81, sk_X9_isReady_89, k_X9_isReady_89, Q_X9_isReady_0, Q_X9_isReady_1, C_X9_ownerOf, C_X9_numberOf, nI_add, pk_mul, ar_lt, ar_le, ar_eq, z_lt, z_le, z_gt, z_ge, z_eq, z_eq2, ix_nI, nI_clamp, ne_eq, hM.k0, hM.f1, hM.k1, hM.l1, hM.f2, hM.k2, hM.l2, hM.f3, hM.k3, hM.l3, hM.f4, hM.k4, hM.l4, hM.f5, hM.k5, hM.l5, hM.f6, hM.k6, hM.l6, hM.f7, hM.k7, hM.l7, hM.f8, hM.k8, hM.l8, hM.f9, hM.k9, hM.l9, hM.f10, hM.k10, hM.l10, hM.f11, hM.k11, hM.l11, hM.f12, hM.k12, hM.l12, hM.f13, hM.k13, hM.l13, hM.f14, hM.k14, hM.l14, hM.f15, hM.k15, hM.l15, hM.f16, hM.k16, hM.l16, hM.f17, hM.k17, hM.l17, hM.f18, hM.k18, hM.l18, hM.f19, hM.k19, hM.l19, hM.f20, hM.k20, hM.l20, hM.f21, hM.k21, hM.l21, hM.f22, hM.k22, hM.l22, hM.f23, hM.k23, hM.l23, nb, Bool.true_and, show ¬ 4 ≤ j by omega, show ¬ 4 ≤ o / 60 by omega, c1, decide_true, Bool.true_or]
        rw [c1] at t1
        simp (disch := first | omega | assumption) only [Z_iconst, Z_bipush, Z_sipush, Z_ldc, Z_ldcM, Z_ldcw, Z_null, Z_getstatic, Z_iload0, Z_aload0, Z_aloadq0, Z_aloadn0, Z_istore0, Z_astore0, Z_astoreq0, Z_astoren0, Z_iinc0, Z_iload1, Z_aload1, Z_aloadq1, Z_aloadn1, Z_istore1, Z_astore1, Z_astoreq1, Z_astoren1, Z_iinc1, Z_iload2, Z_aload2, Z_aloadq2, Z_aloadn2, Z_istore2, Z_astore2, Z_astoreq2, Z_astoren2, Z_iinc2, Z_iload3, Z_aload3, Z_aloadq3, Z_aloadn3, Z_istore3, Z_astore3, Z_astoreq3, Z_astoren3, Z_iinc3, Z_iload4, Z_aload4, Z_aloadq4, Z_aloadn4, Z_istore4, Z_astore4, Z_astoreq4, Z_astoren4, Z_iinc4, Z_iload5, Z_aload5, Z_aloadq5, Z_aloadn5, Z_istore5, Z_astore5, Z_astoreq5, Z_astoren5, Z_iinc5, Z_iload6, Z_aload6, Z_aloadq6, Z_aloadn6, Z_istore6, Z_astore6, Z_astoreq6, Z_astoren6, Z_iinc6, Z_iload7, Z_aload7, Z_aloadq7, Z_aloadn7, Z_istore7, Z_astore7, Z_astoreq7, Z_astoren7, Z_iinc7, Z_iload8, Z_aload8, Z_aloadq8, Z_aloadn8, Z_istore8, Z_astore8, Z_astoreq8, Z_astoren8, Z_iinc8, Z_iload9, Z_aload9, Z_aloadq9, Z_aloadn9, Z_istore9, Z_astore9, Z_astoreq9, Z_astoren9, Z_iinc9, Z_iload10, Z_aload10, Z_aloadq10, Z_aloadn10, Z_istore10, Z_astore10, Z_astoreq10, Z_astoren10, Z_iinc10, Z_iload11, Z_aload11, Z_aloadq11, Z_aloadn11, Z_istore11, Z_astore11, Z_astoreq11, Z_astoren11, Z_iinc11, Z_iload12, Z_aload12, Z_aloadq12, Z_aloadn12, Z_istore12, Z_astore12, Z_astoreq12, Z_astoren12, Z_iinc12, Z_iadd, Z_isub, Z_imul, Z_iand, Z_ior, Z_ishl, Z_ishr, Z_iushr, Z_idiv, Z_irem, Z_dup, Z_dupx1, Z_dup2, Z_pop, Z_if_eq, Z_icmp_eq, Z_if_ne, Z_icmp_ne, Z_if_lt, Z_icmp_lt, Z_if_le, Z_icmp_le, Z_if_ge, Z_icmp_ge, Z_if_gt, Z_icmp_gt, Z_acmp_eqq1, Z_acmp_eqq2, Z_acmp_eqq3, Z_acmp_eqq4, Z_acmp_neq1, Z_acmp_neq2, Z_acmp_neq3, Z_acmp_neq4, Z_ifnull, Z_ifnullN, Z_ifnullq, Z_ifnonnull, Z_ifnonnullN, Z_ifnonnullq, Z_goto, Z_getI, Z_getZ, Z_getR, Z_putI, Z_putR, Z_putN, Z_putQ, Z_putZ, Z_new, Z_newarray, Z_anewarray, Z_alen, Z_cast, Z_objInit, Z_clone, Z_getClass, Z_copy, Z_max, Z_min, Y_iaload, Y_baload, Y_aaload, Y_iastore, Y_bastore, Y_aastore, Y_aastoreN, lt_0p, lt_1n, va_some, va_none, Option.toList_some, Option.toList_none, List.nil_append, List.cons_append, List.length_nil, List.length_cons, true_and, and_true, if_true, if_false, ite_true, ite_false, Nat.zero_le, Nat.not_lt_zero, Nat.reduceLeDiff, Nat.reduceEqDiff, Nat.reduceAdd, Nat.reduceMul, Nat.reduceSub, Nat.reduceLT, Nat.zero_add, not_true_eq_false, not_false_eq_true, true_or, or_true, false_or, or_false, Nat.add_zero, false_and, and_false, exists_eq_left', Option.some.injEq, k_X9_isReady_0, sk_X9_isReady_28, k_X9_isReady_28, sk_X9_isReady_29, k_X9_isReady_29, sk_X9_isReady_34, sk_X9_isReady_76, k_X9_isReady_76, sk_X9_isReady_80, k_X9_isReady_80, sk_X9_isReady_81, k_X9_isReady_81, sk_X9_isReady_89, k_X9_isReady_89, Q_X9_isReady_0, Q_X9_isReady_1, C_X9_ownerOf, C_X9_numberOf, t1]
      · by_cases c2 : sCk s o j ≤ sOw s r j
        · simp (disch := first | omega | assumption) only [Z_iconst, Z_bipush, Z_sipush, Z_ldc, Z_ldcM, Z_ldcw, Z_null, Z_getstatic, Z_iload0, Z_aload0, Z_aloadq0, Z_aloadn0, Z_istore0, Z_astore0, Z_astoreq0, Z_astoren0, Z_iinc0, Z_iload1, Z_aload1, Z_aloadq1, Z_aloadn1, Z_istore1, Z_astore1, Z_astoreq1, Z_astoren1, Z_iinc1, Z_iload2, Z_aload2, Z_aloadq2, Z_aloadn2, Z_istore2, Z_astore2, Z_astoreq2, Z_astoren2, Z_iinc2, Z_iload3, Z_aload3, Z_aloadq3, Z_aloadn3, Z_istore3, Z_astore3, Z_astoreq3, Z_astoren3, Z_iinc3, Z_iload4, Z_aload4, Z_aloadq4, Z_aloadn4, Z_istore4, Z_astore4, Z_astoreq4, Z_astoren4, Z_iinc4, Z_iload5, Z_aload5, Z_aloadq5, Z_aloadn5, Z_istore5, Z_astore5, Z_astoreq5, Z_astoren5, Z_iinc5, Z_iload6, Z_aload6, Z_aloadq6, Z_aloadn6, Z_istore6, Z_astore6, Z_astoreq6, Z_astoren6, Z_iinc6, Z_iload7, Z_aload7, Z_aloadq7, Z_aloadn7, Z_istore7, Z_astore7, Z_astoreq7, Z_astoren7, Z_iinc7, Z_iload8, Z_aload8, Z_aloadq8, Z_aloadn8, Z_istore8, Z_astore8, Z_astoreq8, Z_astoren8, Z_iinc8, Z_iload9, Z_aload9, Z_aloadq9, Z_aloadn9, Z_istore9, Z_astore9, Z_astoreq9, Z_astoren9, Z_iinc9, Z_iload10, Z_aload10, Z_aloadq10, Z_aloadn10, Z_istore10, Z_astore10, Z_astoreq10, Z_astoren10, Z_iinc10, Z_iload11, Z_aload11, Z_aloadq11, Z_aloadn11, Z_istore11, Z_astore11, Z_astoreq11, Z_astoren11, Z_iinc11, Z_iload12, Z_aload12, Z_aloadq12, Z_aloadn12, Z_istore12, Z_astore12, Z_astoreq12, Z_astoren12, Z_iinc12, Z_iadd, Z_isub, Z_imul, Z_iand, Z_ior, Z_ishl, Z_ishr, Z_iushr, Z_idiv, Z_irem, Z_dup, Z_dupx1, Z_dup2, Z_pop, Z_if_eq, Z_icmp_eq, Z_if_ne, Z_icmp_ne, Z_if_lt, Z_icmp_lt, Z_if_le, Z_icmp_le, Z_if_ge, Z_icmp_ge, Z_if_gt, Z_icmp_gt, Z_acmp_eqq1, Z_acmp_eqq2, Z_acmp_eqq3, Z_acmp_eqq4, Z_acmp_neq1, Z_acmp_neq2, Z_acmp_neq3, Z_acmp_neq4, Z_ifnull, Z_ifnullN, Z_ifnullq, Z_ifnonnull, Z_ifnonnullN, Z_ifnonnullq, Z_goto, Z_getI, Z_getZ, Z_getR, Z_putI, Z_putR, Z_putN, Z_putQ, Z_putZ, Z_new, Z_newarray, Z_anewarray, Z_alen, Z_cast, Z_objInit, Z_clone, Z_getClass, Z_copy, Z_max, Z_min, Y_iaload, Y_baload, Y_aaload, Y_iastore, Y_bastore, Y_aastore, Y_aastoreN, lt_0p, lt_1n, va_some, va_none, Option.toList_some, Option.toList_none, List.nil_append, List.cons_append, List.length_nil, List.length_cons, true_and, and_true, if_true, if_false, ite_true, ite_false, Nat.zero_le, Nat.not_lt_zero, Nat.reduceLeDiff, Nat.reduceEqDiff, Nat.reduceAdd, Nat.reduceMul, Nat.reduceSub, Nat.reduceLT, Nat.zero_add, not_true_eq_false, not_false_eq_true, true_or, or_true, false_or, or_false, Nat.add_zero, false_and, and_false, exists_eq_left', Option.some.injEq, k_X9_isReady_0, sk_X9_isReady_28, k_X9_isReady_28, sk_X9_isReady_29, k_X9_isReady_29, sk_X9_isReady_34, sk_X9_isReady_76, k_X9_isReady_76, sk_X9_isReady_80, k_X9_isReady_80, sk_X9_isReady_81, k_X9_isReady_81, sk_X9_isReady_89, k_X9_isReady_89, Q_X9_isReady_0, Q_X9_isReady_1, C_X9_ownerOf, C_X9_numberOf, nI_add, pk_mul, ar_lt, ar_le, ar_eq, z_lt, z_le, z_gt, z_ge, z_eq, z_eq2, ix_nI, nI_clamp, ne_eq, hM.k0, hM.f1, hM.k1, hM.l1, hM.f2, hM.k2, hM.l2, hM.f3, hM.k3, hM.l3, hM.f4, hM.k4, hM.l4, hM.f5, hM.k5, hM.l5, hM.f6, hM.k6, hM.l6, hM.f7, hM.k7, hM.l7, hM.f8, hM.k8, hM.l8, hM.f9, hM.k9, hM.l9, hM.f10, hM.k10, hM.l10, hM.f11, hM.k11, hM.l11, hM.f12, hM.k12, hM.l12, hM.f13, hM.k13, hM.l13, hM.f14, hM.k14, hM.l14, hM.f15, hM.k15, hM.l15, hM.f16, hM.k16, hM.l16, hM.f17, hM.k17, hM.l17, hM.f18, hM.k18, hM.l18, hM.f19, hM.k19, hM.l19, hM.f20, hM.k20, hM.l20, hM.f21, hM.k21, hM.l21, hM.f22, hM.k22, hM.l22, hM.f23, hM.k23, hM.l23, nb, Bool.true_and, show ¬ 4 ≤ j by omega, c1, e1, e2, show ¬ sOw s r j < sCk s o j by omega, c2, decide_true, decide_false, Bool.or_true, t1]
        · simp (disch := first | omega | assumption) only [Z_iconst, Z_bipush, Z_sipush, Z_ldc, Z_ldcM, Z_ldcw, Z_null, Z_getstatic, Z_iload0, Z_aload0, Z_aloadq0, Z_aloadn0, Z_istore0, Z_astore0, Z_astoreq0, Z_astoren0, Z_iinc0, Z_iload1, Z_aload1, Z_aloadq1, Z_aloadn1, Z_istore1, Z_astore1, Z_astoreq1, Z_astoren1, Z_iinc1, Z_iload2, Z_aload2, Z_aloadq2, Z_aloadn2, Z_istore2, Z_astore2, Z_astoreq2, Z_astoren2, Z_iinc2, Z_iload3, Z_aload3, Z_aloadq3, Z_aloadn3, Z_istore3, Z_astore3, Z_astoreq3, Z_astoren3, Z_iinc3, Z_iload4, Z_aload4, Z_aloadq4, Z_aloadn4, Z_istore4, Z_astore4, Z_astoreq4, Z_astoren4, Z_iinc4, Z_iload5, Z_aload5, Z_aloadq5, Z_aloadn5, Z_istore5, Z_astore5, Z_astoreq5, Z_astoren5, Z_iinc5, Z_iload6, Z_aload6, Z_aloadq6, Z_aloadn6, Z_istore6, Z_astore6, Z_astoreq6, Z_astoren6, Z_iinc6, Z_iload7, Z_aload7, Z_aloadq7, Z_aloadn7, Z_istore7, Z_astore7, Z_astoreq7, Z_astoren7, Z_iinc7, Z_iload8, Z_aload8, Z_aloadq8, Z_aloadn8, Z_istore8, Z_astore8, Z_astoreq8, Z_astoren8, Z_iinc8, Z_iload9, Z_aload9, Z_aloadq9, Z_aloadn9, Z_istore9, Z_astore9, Z_astoreq9, Z_astoren9, Z_iinc9, Z_iload10, Z_aload10, Z_aloadq10, Z_aloadn10, Z_istore10, Z_astore10, Z_astoreq10, Z_astoren10, Z_iinc10, Z_iload11, Z_aload11, Z_aloadq11, Z_aloadn11, Z_istore11, Z_astore11, Z_astoreq11, Z_astoren11, Z_iinc11, Z_iload12, Z_aload12, Z_aloadq12, Z_aloadn12, Z_istore12, Z_astore12, Z_astoreq12, Z_astoren12, Z_iinc12, Z_iadd, Z_isub, Z_imul, Z_iand, Z_ior, Z_ishl, Z_ishr, Z_iushr, Z_idiv, Z_irem, Z_dup, Z_dupx1, Z_dup2, Z_pop, Z_if_eq, Z_icmp_eq, Z_if_ne, Z_icmp_ne, Z_if_lt, Z_icmp_lt, Z_if_le, Z_icmp_le, Z_if_ge, Z_icmp_ge, Z_if_gt, Z_icmp_gt, Z_acmp_eqq1, Z_acmp_eqq2, Z_acmp_eqq3, Z_acmp_eqq4, Z_acmp_neq1, Z_acmp_neq2, Z_acmp_neq3, Z_acmp_neq4, Z_ifnull, Z_ifnullN, Z_ifnullq, Z_ifnonnull, Z_ifnonnullN, Z_ifnonnullq, Z_goto, Z_getI, Z_getZ, Z_getR, Z_putI, Z_putR, Z_putN, Z_putQ, Z_putZ, Z_new, Z_newarray, Z_anewarray, Z_alen, Z_cast, Z_objInit, Z_clone, Z_getClass, Z_copy, Z_max, Z_min, Y_iaload, Y_baload, Y_aaload, Y_iastore, Y_bastore, Y_aastore, Y_aastoreN, lt_0p, lt_1n, va_some, va_none, Option.toList_some, Option.toList_none, List.nil_append, List.cons_append, List.length_nil, List.length_cons, true_and, and_true, if_true, if_false, ite_true, ite_false, Nat.zero_le, Nat.not_lt_zero, Nat.reduceLeDiff, Nat.reduceEqDiff, Nat.reduceAdd, Nat.reduceMul, Nat.reduceSub, Nat.reduceLT, Nat.zero_add, not_true_eq_false, not_false_eq_true, true_or, or_true, false_or, or_false, Nat.add_zero, false_and, and_false, exists_eq_left', Option.some.injEq, k_X9_isReady_0, sk_X9_isReady_28, k_X9_isReady_28, sk_X9_isReady_29, k_X9_isReady_29, sk_X9_isReady_34, sk_X9_isReady_76, k_X9_isReady_76, sk_X9_isReady_80, k_X9_isReady_80, sk_X9_isReady_81, k_X9_isReady_81, sk_X9_isReady_89, k_X9_isReady_89, Q_X9_isReady_0, Q_X9_isReady_1, C_X9_ownerOf, C_X9_numberOf, nI_add, pk_mul, ar_lt, ar_le, ar_eq, z_lt, z_le, z_gt, z_ge, z_eq, z_eq2, ix_nI, nI_clamp, ne_eq, hM.k0, hM.f1, hM.k1, hM.l1, hM.f2, hM.k2, hM.l2, hM.f3, hM.k3, hM.l3, hM.f4, hM.k4, hM.l4, hM.f5, hM.k5, hM.l5, hM.f6, hM.k6, hM.l6, hM.f7, hM.k7, hM.l7, hM.f8, hM.k8, hM.l8, hM.f9, hM.k9, hM.l9, hM.f10, hM.k10, hM.l10, hM.f11, hM.k11, hM.l11, hM.f12, hM.k12, hM.l12, hM.f13, hM.k13, hM.l13, hM.f14, hM.k14, hM.l14, hM.f15, hM.k15, hM.l15, hM.f16, hM.k16, hM.l16, hM.f17, hM.k17, hM.l17, hM.f18, hM.k18, hM.l18, hM.f19, hM.k19, hM.l19, hM.f20, hM.k20, hM.l20, hM.f21, hM.k21, hM.l21, hM.f22, hM.k22, hM.l22, hM.f23, hM.k23, hM.l23, nb, Bool.true_and, show ¬ 4 ≤ j by omega, c1, e1, e2, show sOw s r j < sCk s o j by omega, c2, decide_true, decide_false, Bool.or_false, Bool.false_and, Bool.false_eq_true, t2]
theorem e_isReady {g r o : Nat} {h : Hp} {s : St} {P : Option Value → Hp → Prop} (hM : ML g h) (hR : MR g h s) (hB : Bd s) (hr : r < 4) (ho : o < 240) : Ev M_X9_isReady [.ref g, .int (nI r), .int (nI o)] h P ↔ P (some (.int (nI (nb (rdy s r o))))) h := by
  have b2 := (hB.2.2.1 r hr).2.2.2.2.2.1 (o / 60) (by omega)
  have e2 := hR.c9 r (o / 60) hr (by omega)
  have t1 := l_isReady (P := P) hM hR hB hr ho 4 0 true rfl
  have t2 := l_isReady (P := P) hM hR hB hr ho 4 0 false rfl
  simp only [nb, if_true, Bool.true_and, Bool.false_and, Bool.false_eq_true, if_false] at t1 t2
  unfold rdy
  by_cases c1 : o % 60 + 1 = sOw s r (o / 60) + 1
  · simp (disch := first | omega | assumption) only [Z_iconst, Z_bipush, Z_sipush, Z_ldc, Z_ldcM, Z_ldcw, Z_null, Z_getstatic, Z_iload0, Z_aload0, Z_aloadq0, Z_aloadn0, Z_istore0, Z_astore0, Z_astoreq0, Z_astoren0, Z_iinc0, Z_iload1, Z_aload1, Z_aloadq1, Z_aloadn1, Z_istore1, Z_astore1, Z_astoreq1, Z_astoren1, Z_iinc1, Z_iload2, Z_aload2, Z_aloadq2, Z_aloadn2, Z_istore2, Z_astore2, Z_astoreq2, Z_astoren2, Z_iinc2, Z_iload3, Z_aload3, Z_aloadq3, Z_aloadn3, Z_istore3, Z_astore3, Z_astoreq3, Z_astoren3, Z_iinc3, Z_iload4, Z_aload4, Z_aloadq4, Z_aloadn4, Z_istore4, Z_astore4, Z_astoreq4, Z_astoren4, Z_iinc4, Z_iload5, Z_aload5, Z_aloadq5, Z_aloadn5, Z_istore5, Z_astore5, Z_astoreq5, Z_astoren5, Z_iinc5, Z_iload6, Z_aload6, Z_aloadq6, Z_aloadn6, Z_istore6, Z_astore6, Z_astoreq6, Z_astoren6, Z_iinc6, Z_iload7, Z_aload7, Z_aloadq7, Z_aloadn7, Z_istore7, Z_astore7, Z_astoreq7, Z_astoren7, Z_iinc7, Z_iload8, Z_aload8, Z_aloadq8, Z_aloadn8, Z_istore8, Z_astore8, Z_astoreq8, Z_astoren8, Z_iinc8, Z_iload9, Z_aload9, Z_aloadq9, Z_aloadn9, Z_istore9, Z_astore9, Z_astoreq9, Z_astoren9, Z_iinc9, Z_iload10, Z_aload10, Z_aloadq10, Z_aloadn10, Z_istore10, Z_astore10, Z_astoreq10, Z_astoren10, Z_iinc10, Z_iload11, Z_aload11, Z_aloadq11, Z_aloadn11, Z_istore11, Z_astore11, Z_astoreq11, Z_astoren11, Z_iinc11, Z_iload12, Z_aload12, Z_aloadq12, Z_aloadn12, Z_istore12, Z_astore12, Z_astoreq12, Z_astoren12, Z_iinc12, Z_iadd, Z_isub, Z_imul, Z_iand, Z_ior, Z_ishl, Z_ishr, Z_iushr, Z_idiv, Z_irem, Z_dup, Z_dupx1, Z_dup2, Z_pop, Z_if_eq, Z_icmp_eq, Z_if_ne, Z_icmp_ne, Z_if_lt, Z_icmp_lt, Z_if_le, Z_icmp_le, Z_if_ge, Z_icmp_ge, Z_if_gt, Z_icmp_gt, Z_acmp_eqq1, Z_acmp_eqq2, Z_acmp_eqq3, Z_acmp_eqq4, Z_acmp_neq1, Z_acmp_neq2, Z_acmp_neq3, Z_acmp_neq4, Z_ifnull, Z_ifnullN, Z_ifnullq, Z_ifnonnull, Z_ifnonnullN, Z_ifnonnullq, Z_goto, Z_getI, Z_getZ, Z_getR, Z_putI, Z_putR, Z_putN, Z_putQ, Z_putZ, Z_new, Z_newarray, Z_anewarray, Z_alen, Z_cast, Z_objInit, Z_clone, Z_getClass, Z_copy, Z_max, Z_min, Y_iaload, Y_baload, Y_aaload, Y_iastore, Y_bastore, Y_aastore, Y_aastoreN, lt_0p, lt_1n, va_some, va_none, Option.toList_some, Option.toList_none, List.nil_append, List.cons_append, List.length_nil, List.length_cons, true_and, and_true, if_true, if_false, ite_true, ite_false, Nat.zero_le, Nat.not_lt_zero, Nat.reduceLeDiff, Nat.reduceEqDiff, Nat.reduceAdd, Nat.reduceMul, Nat.reduceSub, Nat.reduceLT, Nat.zero_add, not_true_eq_false, not_false_eq_true, true_or, or_true, false_or, or_false, Nat.add_zero, false_and, and_false, exists_eq_left', Option.some.injEq, k_X9_isReady_0, sk_X9_isReady_28, k_X9_isReady_28, sk_X9_isReady_29, k_X9_isReady_29, sk_X9_isReady_34, sk_X9_isReady_76, k_X9_isReady_76, sk_X9_isReady_80, k_X9_isReady_80, sk_X9_isReady_81, k_X9_isReady_81, sk_X9_isReady_89, k_X9_isReady_89, Q_X9_isReady_0, Q_X9_isReady_1, C_X9_ownerOf, C_X9_numberOf, E_X9_isReady, nI_add, pk_mul, ar_lt, ar_le, ar_eq, z_lt, z_le, z_gt, z_ge, z_eq, z_eq2, ix_nI, nI_clamp, ne_eq, hM.k0, hM.f1, hM.k1, hM.l1, hM.f2, hM.k2, hM.l2, hM.f3, hM.k3, hM.l3, hM.f4, hM.k4, hM.l4, hM.f5, hM.k5, hM.l5, hM.f6, hM.k6, hM.l6, hM.f7, hM.k7, hM.l7, hM.f8, hM.k8, hM.l8, hM.f9, hM.k9, hM.l9, hM.f10, hM.k10, hM.l10, hM.f11, hM.k11, hM.l11, hM.f12, hM.k12, hM.l12, hM.f13, hM.k13, hM.l13, hM.f14, hM.k14, hM.l14, hM.f15, hM.k15, hM.l15, hM.f16, hM.k16, hM.l16, hM.f17, hM.k17, hM.l17, hM.f18, hM.k18, hM.l18, hM.f19, hM.k19, hM.l19, hM.f20, hM.k20, hM.l20, hM.f21, hM.k21, hM.l21, hM.f22, hM.k22, hM.l22, hM.f23, hM.k23, hM.l23, nb, e_ownerOf o ho, e_numberOf o ho, e2, c1, decide_true, Bool.true_and, t1]
  · simp (disch := first | omega | assumption) only [Z_iconst, Z_bipush, Z_sipush, Z_ldc, Z_ldcM, Z_ldcw, Z_null, Z_getstatic, Z_iload0, Z_aload0, Z_aloadq0, Z_aloadn0, Z_istore0, Z_astore0, Z_astoreq0, Z_astoren0, Z_iinc0, Z_iload1, Z_aload1, Z_aloadq1, Z_aloadn1, Z_istore1, Z_astore1, Z_astoreq1, Z_astoren1, Z_iinc1, Z_iload2, Z_aload2, Z_aloadq2, Z_aloadn2, Z_istore2, Z_astore2, Z_astoreq2, Z_astoren2, Z_iinc2, Z_iload3, Z_aload3, Z_aloadq3, Z_aloadn3, Z_istore3, Z_astore3, Z_astoreq3, Z_astoren3, Z_iinc3, Z_iload4, Z_aload4, Z_aloadq4, Z_aloadn4, Z_istore4, Z_astore4, Z_astoreq4, Z_astoren4, Z_iinc4, Z_iload5, Z_aload5, Z_aloadq5, Z_aloadn5, Z_istore5, Z_astore5, Z_astoreq5, Z_astoren5, Z_iinc5, Z_iload6, Z_aload6, Z_aloadq6, Z_aloadn6, Z_istore6, Z_astore6, Z_astoreq6, Z_astoren6, Z_iinc6, Z_iload7, Z_aload7, Z_aloadq7, Z_aloadn7, Z_istore7, Z_astore7, Z_astoreq7, Z_astoren7, Z_iinc7, Z_iload8, Z_aload8, Z_aloadq8, Z_aloadn8, Z_istore8, Z_astore8, Z_astoreq8, Z_astoren8, Z_iinc8, Z_iload9, Z_aload9, Z_aloadq9, Z_aloadn9, Z_istore9, Z_astore9, Z_astoreq9, Z_astoren9, Z_iinc9, Z_iload10, Z_aload10, Z_aloadq10, Z_aloadn10, Z_istore10, Z_astore10, Z_astoreq10, Z_astoren10, Z_iinc10, Z_iload11, Z_aload11, Z_aloadq11, Z_aloadn11, Z_istore11, Z_astore11, Z_astoreq11, Z_astoren11, Z_iinc11, Z_iload12, Z_aload12, Z_aloadq12, Z_aloadn12, Z_istore12, Z_astore12, Z_astoreq12, Z_astoren12, Z_iinc12, Z_iadd, Z_isub, Z_imul, Z_iand, Z_ior, Z_ishl, Z_ishr, Z_iushr, Z_idiv, Z_irem, Z_dup, Z_dupx1, Z_dup2, Z_pop, Z_if_eq, Z_icmp_eq, Z_if_ne, Z_icmp_ne, Z_if_lt, Z_icmp_lt, Z_if_le, Z_icmp_le, Z_if_ge, Z_icmp_ge, Z_if_gt, Z_icmp_gt, Z_acmp_eqq1, Z_acmp_eqq2, Z_acmp_eqq3, Z_acmp_eqq4, Z_acmp_neq1, Z_acmp_neq2, Z_acmp_neq3, Z_acmp_neq4, Z_ifnull, Z_ifnullN, Z_ifnullq, Z_ifnonnull, Z_ifnonnullN, Z_ifnonnullq, Z_goto, Z_getI, Z_getZ, Z_getR, Z_putI, Z_putR, Z_putN, Z_putQ, Z_putZ, Z_new, Z_newarray, Z_anewarray, Z_alen, Z_cast, Z_objInit, Z_clone, Z_getClass, Z_copy, Z_max, Z_min, Y_iaload, Y_baload, Y_aaload, Y_iastore, Y_bastore, Y_aastore, Y_aastoreN, lt_0p, lt_1n, va_some, va_none, Option.toList_some, Option.toList_none, List.nil_append, List.cons_append, List.length_nil, List.length_cons, true_and, and_true, if_true, if_false, ite_true, ite_false, Nat.zero_le, Nat.not_lt_zero, Nat.reduceLeDiff, Nat.reduceEqDiff, Nat.reduceAdd, Nat.reduceMul, Nat.reduceSub, Nat.reduceLT, Nat.zero_add, not_true_eq_false, not_false_eq_true, true_or, or_true, false_or, or_false, Nat.add_zero, false_and, and_false, exists_eq_left', Option.some.injEq, k_X9_isReady_0, sk_X9_isReady_28, k_X9_isReady_28, sk_X9_isReady_29, k_X9_isReady_29, sk_X9_isReady_34, sk_X9_isReady_76, k_X9_isReady_76, sk_X9_isReady_80, k_X9_isReady_80, sk_X9_isReady_81, k_X9_isReady_81, sk_X9_isReady_89, k_X9_isReady_89, Q_X9_isReady_0, Q_X9_isReady_1, C_X9_ownerOf, C_X9_numberOf, E_X9_isReady, nI_add, pk_mul, ar_lt, ar_le, ar_eq, z_lt, z_le, z_gt, z_ge, z_eq, z_eq2, ix_nI, nI_clamp, ne_eq, hM.k0, hM.f1, hM.k1, hM.l1, hM.f2, hM.k2, hM.l2, hM.f3, hM.k3, hM.l3, hM.f4, hM.k4, hM.l4, hM.f5, hM.k5, hM.l5, hM.f6, hM.k6, hM.l6, hM.f7, hM.k7, hM.l7, hM.f8, hM.k8, hM.l8, hM.f9, hM.k9, hM.l9, hM.f10, hM.k10, hM.l10, hM.f11, hM.k11, hM.l11, hM.f12, hM.k12, hM.l12, hM.f13, hM.k13, hM.l13, hM.f14, hM.k14, hM.l14, hM.f15, hM.k15, hM.l15, hM.f16, hM.k16, hM.l16, hM.f17, hM.k17, hM.l17, hM.f18, hM.k18, hM.l18, hM.f19, hM.k19, hM.l19, hM.f20, hM.k20, hM.l20, hM.f21, hM.k21, hM.l21, hM.f22, hM.k22, hM.l22, hM.f23, hM.k23, hM.l23, nb, e_ownerOf o ho, e_numberOf o ho, e2, c1, decide_false, Bool.false_and, Bool.false_eq_true, t2]
end
section
/-! what the reference's own changes leave alone -/
def Fr (g : Nat) (h h' : Hp) : Prop := kd h' = kd h ∧ ln h' = ln h ∧ fR h' = fR h ∧ aR h' = aR h ∧ gc h' = gc h ∧ sz h' = sz h ∧ sl h' = sl h ∧ (∀ f q, ¬ (f = 309 ∧ q = g) → fI h' f q = fI h f q) ∧ (∀ q, (q < g + 1 ∨ g + 23 < q) → aI h' q = aI h q)
theorem Fr.rf {g : Nat} {h : Hp} : Fr g h h := ⟨rfl, rfl, rfl, rfl, rfl, rfl, rfl, fun _ _ _ => rfl, fun _ _ => rfl⟩
theorem Fr.tr {g : Nat} {h h1 h2 : Hp} (a : Fr g h h1) (b : Fr g h1 h2) : Fr g h h2 := ⟨b.1.trans a.1, b.2.1.trans a.2.1, b.2.2.1.trans a.2.2.1, b.2.2.2.1.trans a.2.2.2.1, b.2.2.2.2.1.trans a.2.2.2.2.1, b.2.2.2.2.2.1.trans a.2.2.2.2.2.1, b.2.2.2.2.2.2.1.trans a.2.2.2.2.2.2.1, fun f q hn => (b.2.2.2.2.2.2.2.1 f q hn).trans (a.2.2.2.2.2.2.2.1 f q hn), fun q hq => (b.2.2.2.2.2.2.2.2 q hq).trans (a.2.2.2.2.2.2.2.2 q hq)⟩
theorem Fr.wa {g k j : Nat} {h h1 : Hp} {v : Int32} (a : Fr g h h1) (h1' : 1 ≤ k) (h2 : k ≤ 23) : Fr g h (waI h1 (g + k) j v) := a.tr ⟨rfl, rfl, rfl, rfl, rfl, rfl, rfl, fun _ _ _ => rfl, fun q hq => by
  funext i
  show (if q = g + k ∧ i = j then v else aI h1 q i) = _
  rw [if_neg (by omega)]⟩
theorem Fr.wo {g : Nat} {h h1 : Hp} {v : Int32} (a : Fr g h h1) : Fr g h (wfI h1 309 g v) := a.tr ⟨rfl, rfl, rfl, rfl, rfl, rfl, rfl, fun f q hn => by
  show (if f = 309 ∧ q = g then v else fI h1 f q) = _
  rw [if_neg hn], fun _ _ => rfl⟩
theorem Fr.ml {g : Nat} {h h1 : Hp} (a : Fr g h h1) (hM : ML g h) : ML g h1 := by
  unfold ML
  rw [a.1, a.2.1, a.2.2.1, a.2.2.2.2.2.1]
  exact hM
theorem gd_app {α : Type} (l : List α) (q d : α) (k : Nat) : (l ++ [q]).getD k d = if k < l.length then l.getD k d else if k = l.length then q else d := by
  by_cases h1 : k < l.length
  · rw [if_pos h1, List.getD_eq_getElem?_getD, List.getElem?_append_left h1, ← List.getD_eq_getElem?_getD]
  · rw [if_neg h1, List.getD_eq_getElem?_getD, List.getElem?_append_right (by omega)]
    by_cases h2 : k = l.length
    · rw [if_pos h2, h2, Nat.sub_self]
      rfl
    · rw [if_neg h2]
      have : k - l.length ≠ 0 := by omega
      obtain ⟨z, hz⟩ : ∃ z, k - l.length = z + 1 := ⟨k - l.length - 1, by omega⟩
      rw [hz]
      rfl
/-- a message is sent on way w; on a full one it is lost -/
def snd (s : St) (w : Nat) (q : Mg) : St := if (sWy s w).length = 30 then s else w_sWy s (fu (sWy s) w (sWy s w ++ [q]))
abbrev nc (g x y : Nat) : Prop := g + x = g + y
theorem ac_eq (g x y : Nat) : (g + x = g + y) = (x = y) := propext ⟨fun h => by omega, fun h => by omega⟩
theorem fr_chk {g : Nat} {h : Hp} : Fr g h h := Fr.rf
theorem snd_MR {g f t k of n : Nat} {h : Hp} {s : St} {c : Nat → Nat} (hR : MR g h s) (hf : f < 4) (ht : t < 4) (hn : (sWy s (4 * f + t)).length = n) (hn30 : n < 30) (hB : Bd s) : MR g (waI (waI (waI (waI (waI (waI (waI h (g + 17) (4 * f + t) (nI (n + 1))) (g + 18) (30 * (4 * f + t) + n) (nI k)) (g + 19) (30 * (4 * f + t) + n) (nI of)) (g + 20) (4 * (30 * (4 * f + t) + n)) (nI (c 0))) (g + 20) (4 * (30 * (4 * f + t) + n) + 1) (nI (c 1))) (g + 20) (4 * (30 * (4 * f + t) + n) + 2) (nI (c 2))) (g + 20) (4 * (30 * (4 * f + t) + n) + 3) (nI (c 3))) (w_sWy s (fu (sWy s) (4 * f + t) (sWy s (4 * f + t) ++ [(k, of, c)]))) := by
  generalize hwe : 4 * f + t = w at *
  have hw16 : w < 16 := by omega
  refine ⟨?_, ?_, ?_, ?_, ?_, ?_, ?_, ?_, ?_, ?_, ?_, ?_, ?_, ?_, ?_, ?_, ?_, ?_, ?_, ?_⟩
  · intro r' hr'; simp only [aI_waI, aI_wfI, ac_eq, Nat.reduceEqDiff, false_and, if_false, ite_false]; exact hR.c1 r' hr'
  · intro o' ho'; simp only [aI_waI, aI_wfI, ac_eq, Nat.reduceEqDiff, false_and, if_false, ite_false]; exact hR.c2 o' ho'
  · intro o' ho'; simp only [aI_waI, aI_wfI, ac_eq, Nat.reduceEqDiff, false_and, if_false, ite_false]; exact hR.c3 o' ho'
  · intro o' ho'; simp only [aI_waI, aI_wfI, ac_eq, Nat.reduceEqDiff, false_and, if_false, ite_false]; exact hR.c4 o' ho'
  · intro o' ho'; simp only [aI_waI, aI_wfI, ac_eq, Nat.reduceEqDiff, false_and, if_false, ite_false]; exact hR.c5 o' ho'
  · intro o' ho'; simp only [aI_waI, aI_wfI, ac_eq, Nat.reduceEqDiff, false_and, if_false, ite_false]; exact hR.c6 o' ho'
  · intro o' j' ho' hj'; simp only [aI_waI, aI_wfI, ac_eq, Nat.reduceEqDiff, false_and, if_false, ite_false]; exact hR.c7 o' j' ho' hj'
  · intro r' hr'; simp only [aI_waI, aI_wfI, ac_eq, Nat.reduceEqDiff, false_and, if_false, ite_false]; exact hR.c8 r' hr'
  · intro r' j' hr' hj'; simp only [aI_waI, aI_wfI, ac_eq, Nat.reduceEqDiff, false_and, if_false, ite_false]; exact hR.c9 r' j' hr' hj'
  · intro r' hr'; simp only [aI_waI, aI_wfI, ac_eq, Nat.reduceEqDiff, false_and, if_false, ite_false]; exact hR.c10 r' hr'
  · intro r' hr'; simp only [aI_waI, aI_wfI, ac_eq, Nat.reduceEqDiff, false_and, if_false, ite_false]; exact hR.c11 r' hr'
  · intro r' k' hr' hk'; simp only [aI_waI, aI_wfI, ac_eq, Nat.reduceEqDiff, false_and, if_false, ite_false]; exact hR.c12 r' k' hr' hk'
  · intro r' o' hr' ho'; simp only [aI_waI, aI_wfI, ac_eq, Nat.reduceEqDiff, false_and, if_false, ite_false]; exact hR.c13 r' o' hr' ho'
  · intro r' hr'; simp only [aI_waI, aI_wfI, ac_eq, Nat.reduceEqDiff, false_and, if_false, ite_false]; exact hR.c14 r' hr'
  · intro r' k' hr' hk'; simp only [aI_waI, aI_wfI, ac_eq, Nat.reduceEqDiff, false_and, if_false, ite_false]; exact hR.c15 r' k' hr' hk'
  · intro r' i' j' hr' hi' hj'; simp only [aI_waI, aI_wfI, ac_eq, Nat.reduceEqDiff, false_and, if_false, ite_false]; exact hR.c16 r' i' j' hr' hi' hj'
  · intro w' hw'
    simp only [aI_waI, ac_eq, Nat.reduceEqDiff, false_and, if_false, true_and]
    show _ = nI (fu (sWy s) w (sWy s w ++ [(k, of, c)]) w').length
    unfold fu
    by_cases hww : w' = w
    · rw [if_pos hww, if_pos hww, List.length_append, hn]
      rfl
    · rw [if_neg hww, if_neg hww]
      exact hR.c17 w' hw'
  · intro w' k' hw' hk'
    have hk' : k' < (fu (sWy s) w (sWy s w ++ [(k, of, c)]) w').length := hk'
    simp only [aI_waI, ac_eq, Nat.reduceEqDiff, false_and, if_false, true_and]
    show _ = nI ((fu (sWy s) w (sWy s w ++ [(k, of, c)]) w').getD k' (0, 0, fun _ => 0)).1
    unfold fu at hk' ⊢
    by_cases hww : w' = w
    · subst hww
      rw [if_pos rfl] at hk' ⊢
      rw [List.length_append, hn] at hk'
      rw [gd_app, hn]
      by_cases hkn : k' = n
      · rw [if_pos (by omega), if_neg (by omega), if_pos hkn]
      · rw [if_neg (by omega), if_pos (by simp at hk'; omega)]
        exact hR.c18 w' k' hw' (by simp at hk'; omega)
    · rw [if_neg hww] at hk' ⊢
      have := (hB.2.2.2 w' hw').1
      rw [if_neg (by omega)]
      exact hR.c18 w' k' hw' hk'
  · intro w' k' hw' hk'
    have hk' : k' < (fu (sWy s) w (sWy s w ++ [(k, of, c)]) w').length := hk'
    simp only [aI_waI, ac_eq, Nat.reduceEqDiff, false_and, if_false, true_and]
    show _ = nI ((fu (sWy s) w (sWy s w ++ [(k, of, c)]) w').getD k' (0, 0, fun _ => 0)).2.1
    unfold fu at hk' ⊢
    by_cases hww : w' = w
    · subst hww
      rw [if_pos rfl] at hk' ⊢
      rw [List.length_append, hn] at hk'
      rw [gd_app, hn]
      by_cases hkn : k' = n
      · rw [if_pos (by omega), if_neg (by omega), if_pos hkn]
      · rw [if_neg (by omega), if_pos (by simp at hk'; omega)]
        exact hR.c19 w' k' hw' (by simp at hk'; omega)
    · rw [if_neg hww] at hk' ⊢
      have := (hB.2.2.2 w' hw').1
      rw [if_neg (by omega)]
      exact hR.c19 w' k' hw' hk'
  · intro w' k' j' hw' hk' hj'
    have hk' : k' < (fu (sWy s) w (sWy s w ++ [(k, of, c)]) w').length := hk'
    simp only [aI_waI, ac_eq, Nat.reduceEqDiff, false_and, if_false, true_and]
    show _ = nI (((fu (sWy s) w (sWy s w ++ [(k, of, c)]) w').getD k' (0, 0, fun _ => 0)).2.2 j')
    unfold fu at hk' ⊢
    by_cases hww : w' = w
    · subst hww
      rw [if_pos rfl] at hk' ⊢
      rw [List.length_append, hn] at hk'
      rw [gd_app, hn]
      by_cases hkn : k' = n
      · subst hkn
        rw [if_neg (Nat.lt_irrefl k'), if_pos rfl]
        rcases (show j' = 0 ∨ j' = 1 ∨ j' = 2 ∨ j' = 3 by omega) with rfl | rfl | rfl | rfl
        · rw [if_neg (by omega), if_neg (by omega), if_neg (by omega), if_pos (by omega)]
        · rw [if_neg (by omega), if_neg (by omega), if_pos (by omega)]
        · rw [if_neg (by omega), if_pos (by omega)]
        · rw [if_pos (by omega)]
      · rw [if_neg (by omega), if_neg (by omega), if_neg (by omega), if_neg (by omega), if_pos (by simp at hk'; omega)]
        exact hR.c20 w' k' j' hw' (by simp at hk'; omega) hj'
    · rw [if_neg hww] at hk' ⊢
      have := (hB.2.2.2 w' hw').1
      rw [if_neg (by omega), if_neg (by omega), if_neg (by omega), if_neg (by omega)]
      exact hR.c20 w' k' j' hw' hk' hj'
set_option maxHeartbeats 4000000 in
theorem c_send {g f t k of x at_ : Nat} {h : Hp} {s : St} {P : Option Value → Hp → Prop} {c : Nat → Nat} (hM : ML g h) (hR : MR g h s) (hB : Bd s) (hf : f < 4) (ht : t < 4) (hk : k ≤ 2) (hof : of < 240) (hx : (x = g + 7 ∧ at_ + 4 ≤ 960) ∨ (x = g + 9 ∧ at_ + 4 ≤ 16)) (hc : ∀ j, j < 4 → aI h x (at_ + j) = nI (c j))
    (hP : ∀ h', Fr g h h' → MR g h' (snd s (4 * f + t) (k, of, c)) → P none h') : Ev M_X9_send [.ref g, .int (nI f), .int (nI t), .int (nI k), .int (nI of), .ref x, .int (nI at_)] h P := by
  have hw : 4 * f + t < 16 := by omega
  have e17 := hR.c17 (4 * f + t) hw
  have hb := (hB.2.2.2 (4 * f + t) hw).1
  have c0 := hc 0 (by decide); have c1 := hc 1 (by decide); have c2 := hc 2 (by decide); have c3 := hc 3 (by decide)
  simp only [Nat.add_zero] at c0
  generalize hn : (sWy s (4 * f + t)).length = n at e17 hb
  by_cases hfull : n = 30
  · have hs : snd s (4 * f + t) (k, of, c) = s := by unfold snd; rw [if_pos (by rw [hn]; exact hfull)]
    rw [hs] at hP
    subst hfull
    simp (disch := first | omega | assumption) only [Z_iconst, Z_bipush, Z_sipush, Z_ldc, Z_ldcM, Z_ldcw, Z_null, Z_getstatic, Z_iload0, Z_aload0, Z_aloadq0, Z_aloadn0, Z_istore0, Z_astore0, Z_astoreq0, Z_astoren0, Z_iinc0, Z_iload1, Z_aload1, Z_aloadq1, Z_aloadn1, Z_istore1, Z_astore1, Z_astoreq1, Z_astoren1, Z_iinc1, Z_iload2, Z_aload2, Z_aloadq2, Z_aloadn2, Z_istore2, Z_astore2, Z_astoreq2, Z_astoren2, Z_iinc2, Z_iload3, Z_aload3, Z_aloadq3, Z_aloadn3, Z_istore3, Z_astore3, Z_astoreq3, Z_astoren3, Z_iinc3, Z_iload4, Z_aload4, Z_aloadq4, Z_aloadn4, Z_istore4, Z_astore4, Z_astoreq4, Z_astoren4, Z_iinc4, Z_iload5, Z_aload5, Z_aloadq5, Z_aloadn5, Z_istore5, Z_astore5, Z_astoreq5, Z_astoren5, Z_iinc5, Z_iload6, Z_aload6, Z_aloadq6, Z_aloadn6, Z_istore6, Z_astore6, Z_astoreq6, Z_astoren6, Z_iinc6, Z_iload7, Z_aload7, Z_aloadq7, Z_aloadn7, Z_istore7, Z_astore7, Z_astoreq7, Z_astoren7, Z_iinc7, Z_iload8, Z_aload8, Z_aloadq8, Z_aloadn8, Z_istore8, Z_astore8, Z_astoreq8, Z_astoren8, Z_iinc8, Z_iload9, Z_aload9, Z_aloadq9, Z_aloadn9, Z_istore9, Z_astore9, Z_astoreq9, Z_astoren9, Z_iinc9, Z_iload10, Z_aload10, Z_aloadq10, Z_aloadn10, Z_istore10, Z_astore10, Z_astoreq10, Z_astoren10, Z_iinc10, Z_iload11, Z_aload11, Z_aloadq11, Z_aloadn11, Z_istore11, Z_astore11, Z_astoreq11, Z_astoren11, Z_iinc11, Z_iload12, Z_aload12, Z_aloadq12, Z_aloadn12, Z_istore12, Z_astore12, Z_astoreq12, Z_astoren12, Z_iinc12, Z_iadd, Z_isub, Z_imul, Z_iand, Z_ior, Z_ishl, Z_ishr, Z_iushr, Z_idiv, Z_irem, Z_dup, Z_dupx1, Z_dup2, Z_pop, Z_if_eq, Z_icmp_eq, Z_if_ne, Z_icmp_ne, Z_if_lt, Z_icmp_lt, Z_if_le, Z_icmp_le, Z_if_ge, Z_icmp_ge, Z_if_gt, Z_icmp_gt, Z_acmp_eqq1, Z_acmp_eqq2, Z_acmp_eqq3, Z_acmp_eqq4, Z_acmp_neq1, Z_acmp_neq2, Z_acmp_neq3, Z_acmp_neq4, Z_ifnull, Z_ifnullN, Z_ifnullq, Z_ifnonnull, Z_ifnonnullN, Z_ifnonnullq, Z_goto, Z_getI, Z_getZ, Z_getR, Z_putI, Z_putR, Z_putN, Z_putQ, Z_putZ, Z_new, Z_newarray, Z_anewarray, Z_alen, Z_cast, Z_objInit, Z_clone, Z_getClass, Z_copy, Z_max, Z_min, Y_iaload, Y_baload, Y_aaload, Y_iastore, Y_bastore, Y_aastore, Y_aastoreN, lt_0p, lt_1n, va_some, va_none, Option.toList_some, Option.toList_none, List.nil_append, List.cons_append, List.length_nil, List.length_cons, true_and, and_true, if_true, if_false, ite_true, ite_false, Nat.zero_le, Nat.not_lt_zero, Nat.reduceLeDiff, Nat.reduceEqDiff, Nat.reduceAdd, Nat.reduceMul, Nat.reduceSub, Nat.reduceLT, Nat.zero_add, not_true_eq_false, not_false_eq_true, true_or, or_true, false_or, or_false, Nat.add_zero, false_and, and_false, exists_eq_left', Option.some.injEq, k_X9_send_0, sk_X9_send_20, k_X9_send_20, sk_X9_send_66, sk_X9_send_98, k_X9_send_98, Q_X9_send, E_X9_send, nI_add, pk_mul, ar_lt, ar_le, ar_eq, z_lt, z_le, z_gt, z_ge, z_eq, z_eq2, ix_nI, nI_clamp, ne_eq, hM.k0, hM.f1, hM.k1, hM.l1, hM.f2, hM.k2, hM.l2, hM.f3, hM.k3, hM.l3, hM.f4, hM.k4, hM.l4, hM.f5, hM.k5, hM.l5, hM.f6, hM.k6, hM.l6, hM.f7, hM.k7, hM.l7, hM.f8, hM.k8, hM.l8, hM.f9, hM.k9, hM.l9, hM.f10, hM.k10, hM.l10, hM.f11, hM.k11, hM.l11, hM.f12, hM.k12, hM.l12, hM.f13, hM.k13, hM.l13, hM.f14, hM.k14, hM.l14, hM.f15, hM.k15, hM.l15, hM.f16, hM.k16, hM.l16, hM.f17, hM.k17, hM.l17, hM.f18, hM.k18, hM.l18, hM.f19, hM.k19, hM.l19, hM.f20, hM.k20, hM.l20, hM.f21, hM.k21, hM.l21, hM.f22, hM.k22, hM.l22, hM.f23, hM.k23, hM.l23, e17]
    exact hP h Fr.rf hR
  · have hs : snd s (4 * f + t) (k, of, c) = w_sWy s (fu (sWy s) (4 * f + t) (sWy s (4 * f + t) ++ [(k, of, c)])) := by unfold snd; rw [if_neg (by rw [hn]; exact hfull)]
    rw [hs] at hP
    have hfin := hP _ ((((((((Fr.rf.wa (k := 17) (j := 4 * f + t) (v := nI (n + 1)) (by decide) (by decide)).wa (k := 18) (j := 30 * (4 * f + t) + n) (v := nI k) (by decide) (by decide)).wa (k := 19) (j := 30 * (4 * f + t) + n) (v := nI of) (by decide) (by decide)).wa (k := 20) (j := 4 * (30 * (4 * f + t) + n)) (v := nI (c 0)) (by decide) (by decide)).wa (k := 20) (j := 4 * (30 * (4 * f + t) + n) + 1) (v := nI (c 1)) (by decide) (by decide)).wa (k := 20) (j := 4 * (30 * (4 * f + t) + n) + 2) (v := nI (c 2)) (by decide) (by decide)).wa (k := 20) (j := 4 * (30 * (4 * f + t) + n) + 3) (v := nI (c 3)) (by decide) (by decide))) (snd_MR hR hf ht hn (by omega) hB)
    rcases hx with ⟨rfl, hat⟩ | ⟨rfl, hat⟩
    · simp (disch := first | omega | assumption) only [Z_iconst, Z_bipush, Z_sipush, Z_ldc, Z_ldcM, Z_ldcw, Z_null, Z_getstatic, Z_iload0, Z_aload0, Z_aloadq0, Z_aloadn0, Z_istore0, Z_astore0, Z_astoreq0, Z_astoren0, Z_iinc0, Z_iload1, Z_aload1, Z_aloadq1, Z_aloadn1, Z_istore1, Z_astore1, Z_astoreq1, Z_astoren1, Z_iinc1, Z_iload2, Z_aload2, Z_aloadq2, Z_aloadn2, Z_istore2, Z_astore2, Z_astoreq2, Z_astoren2, Z_iinc2, Z_iload3, Z_aload3, Z_aloadq3, Z_aloadn3, Z_istore3, Z_astore3, Z_astoreq3, Z_astoren3, Z_iinc3, Z_iload4, Z_aload4, Z_aloadq4, Z_aloadn4, Z_istore4, Z_astore4, Z_astoreq4, Z_astoren4, Z_iinc4, Z_iload5, Z_aload5, Z_aloadq5, Z_aloadn5, Z_istore5, Z_astore5, Z_astoreq5, Z_astoren5, Z_iinc5, Z_iload6, Z_aload6, Z_aloadq6, Z_aloadn6, Z_istore6, Z_astore6, Z_astoreq6, Z_astoren6, Z_iinc6, Z_iload7, Z_aload7, Z_aloadq7, Z_aloadn7, Z_istore7, Z_astore7, Z_astoreq7, Z_astoren7, Z_iinc7, Z_iload8, Z_aload8, Z_aloadq8, Z_aloadn8, Z_istore8, Z_astore8, Z_astoreq8, Z_astoren8, Z_iinc8, Z_iload9, Z_aload9, Z_aloadq9, Z_aloadn9, Z_istore9, Z_astore9, Z_astoreq9, Z_astoren9, Z_iinc9, Z_iload10, Z_aload10, Z_aloadq10, Z_aloadn10, Z_istore10, Z_astore10, Z_astoreq10, Z_astoren10, Z_iinc10, Z_iload11, Z_aload11, Z_aloadq11, Z_aloadn11, Z_istore11, Z_astore11, Z_astoreq11, Z_astoren11, Z_iinc11, Z_iload12, Z_aload12, Z_aloadq12, Z_aloadn12, Z_istore12, Z_astore12, Z_astoreq12, Z_astoren12, Z_iinc12, Z_iadd, Z_isub, Z_imul, Z_iand, Z_ior, Z_ishl, Z_ishr, Z_iushr, Z_idiv, Z_irem, Z_dup, Z_dupx1, Z_dup2, Z_pop, Z_if_eq, Z_icmp_eq, Z_if_ne, Z_icmp_ne, Z_if_lt, Z_icmp_lt, Z_if_le, Z_icmp_le, Z_if_ge, Z_icmp_ge, Z_if_gt, Z_icmp_gt, Z_acmp_eqq1, Z_acmp_eqq2, Z_acmp_eqq3, Z_acmp_eqq4, Z_acmp_neq1, Z_acmp_neq2, Z_acmp_neq3, Z_acmp_neq4, Z_ifnull, Z_ifnullN, Z_ifnullq, Z_ifnonnull, Z_ifnonnullN, Z_ifnonnullq, Z_goto, Z_getI, Z_getZ, Z_getR, Z_putI, Z_putR, Z_putN, Z_putQ, Z_putZ, Z_new, Z_newarray, Z_anewarray, Z_alen, Z_cast, Z_objInit, Z_clone, Z_getClass, Z_copy, Z_max, Z_min, Y_iaload, Y_baload, Y_aaload, Y_iastore, Y_bastore, Y_aastore, Y_aastoreN, lt_0p, lt_1n, va_some, va_none, Option.toList_some, Option.toList_none, List.nil_append, List.cons_append, List.length_nil, List.length_cons, true_and, and_true, if_true, if_false, ite_true, ite_false, Nat.zero_le, Nat.not_lt_zero, Nat.reduceLeDiff, Nat.reduceEqDiff, Nat.reduceAdd, Nat.reduceMul, Nat.reduceSub, Nat.reduceLT, Nat.zero_add, not_true_eq_false, not_false_eq_true, true_or, or_true, false_or, or_false, Nat.add_zero, false_and, and_false, exists_eq_left', Option.some.injEq, k_X9_send_0, sk_X9_send_20, k_X9_send_20, sk_X9_send_66, sk_X9_send_98, k_X9_send_98, Q_X9_send, E_X9_send, nI_add, pk_mul, ar_lt, ar_le, ar_eq, z_lt, z_le, z_gt, z_ge, z_eq, z_eq2, ix_nI, nI_clamp, ne_eq, hM.k0, hM.f1, hM.k1, hM.l1, hM.f2, hM.k2, hM.l2, hM.f3, hM.k3, hM.l3, hM.f4, hM.k4, hM.l4, hM.f5, hM.k5, hM.l5, hM.f6, hM.k6, hM.l6, hM.f7, hM.k7, hM.l7, hM.f8, hM.k8, hM.l8, hM.f9, hM.k9, hM.l9, hM.f10, hM.k10, hM.l10, hM.f11, hM.k11, hM.l11, hM.f12, hM.k12, hM.l12, hM.f13, hM.k13, hM.l13, hM.f14, hM.k14, hM.l14, hM.f15, hM.k15, hM.l15, hM.f16, hM.k16, hM.l16, hM.f17, hM.k17, hM.l17, hM.f18, hM.k18, hM.l18, hM.f19, hM.k19, hM.l19, hM.f20, hM.k20, hM.l20, hM.f21, hM.k21, hM.l21, hM.f22, hM.k22, hM.l22, hM.f23, hM.k23, hM.l23, kd_wfI, ln_wfI, fI_wfI, fR_wfI, aI_wfI, aR_wfI, gc_wfI, sz_wfI, sl_wfI, kd_wfR, ln_wfR, fI_wfR, fR_wfR, aI_wfR, aR_wfR, gc_wfR, sz_wfR, sl_wfR, kd_waI, ln_waI, fI_waI, fR_waI, aI_waI, aR_waI, gc_waI, sz_waI, sl_waI, kd_waR, ln_waR, fI_waR, fR_waR, aI_waR, aR_waR, gc_waR, sz_waR, sl_waR, kd_hnew, ln_hnew, fI_hnew, fR_hnew, aI_hnew, aR_hnew, gc_hnew, sz_hnew, sl_hnew, e17, hfull, ac_eq, c0, c1, c2, c3]
      iterate 5 (rw [k_X9_send_66]; simp (disch := first | omega | assumption) only [Z_iconst, Z_bipush, Z_sipush, Z_ldc, Z_ldcM, Z_ldcw, Z_null, Z_getstatic, Z_iload0, Z_aload0, Z_aloadq0, Z_aloadn0, Z_istore0, Z_astore0, Z_astoreq0, Z_astoren0, Z_iinc0, Z_iload1, Z_aload1, Z_aloadq1, Z_aloadn1, Z_istore1, Z_astore1, Z_astoreq1, Z_astoren1, Z_iinc1, Z_iload2, Z_aload2, Z_aloadq2, Z_aloadn2, Z_istore2, Z_astore2, Z_astoreq2, Z_astoren2, Z_iinc2, Z_iload3, Z_aload3, Z_aloadq3, Z_aloadn3, Z_istore3, Z_astore3, Z_astoreq3, Z_astoren3, Z_iinc3, Z_iload4, Z_aload4, Z_aloadq4, Z_aloadn4, Z_istore4, Z_astore4, Z_astoreq4, Z_astoren4, Z_iinc4, Z_iload5, Z_aload5, Z_aloadq5, Z_aloadn5, Z_istore5, Z_astore5, Z_astoreq5, Z_astoren5, Z_iinc5, Z_iload6, Z_aload6, Z_aloadq6, Z_aloadn6, Z_istore6, Z_astore6, Z_astoreq6, Z_astoren6, Z_iinc6, Z_iload7, Z_aload7, Z_aloadq7, Z_aloadn7, Z_istore7, Z_astore7, Z_astoreq7, Z_astoren7, Z_iinc7, Z_iload8, Z_aload8, Z_aloadq8, Z_aloadn8, Z_istore8, Z_astore8, Z_astoreq8, Z_astoren8, Z_iinc8, Z_iload9, Z_aload9, Z_aloadq9, Z_aloadn9, Z_istore9, Z_astore9, Z_astoreq9, Z_astoren9, Z_iinc9, Z_iload10, Z_aload10, Z_aloadq10, Z_aloadn10, Z_istore10, Z_astore10, Z_astoreq10, Z_astoren10, Z_iinc10, Z_iload11, Z_aload11, Z_aloadq11, Z_aloadn11, Z_istore11, Z_astore11, Z_astoreq11, Z_astoren11, Z_iinc11, Z_iload12, Z_aload12, Z_aloadq12, Z_aloadn12, Z_istore12, Z_astore12, Z_astoreq12, Z_astoren12, Z_iinc12, Z_iadd, Z_isub, Z_imul, Z_iand, Z_ior, Z_ishl, Z_ishr, Z_iushr, Z_idiv, Z_irem, Z_dup, Z_dupx1, Z_dup2, Z_pop, Z_if_eq, Z_icmp_eq, Z_if_ne, Z_icmp_ne, Z_if_lt, Z_icmp_lt, Z_if_le, Z_icmp_le, Z_if_ge, Z_icmp_ge, Z_if_gt, Z_icmp_gt, Z_acmp_eqq1, Z_acmp_eqq2, Z_acmp_eqq3, Z_acmp_eqq4, Z_acmp_neq1, Z_acmp_neq2, Z_acmp_neq3, Z_acmp_neq4, Z_ifnull, Z_ifnullN, Z_ifnullq, Z_ifnonnull, Z_ifnonnullN, Z_ifnonnullq, Z_goto, Z_getI, Z_getZ, Z_getR, Z_putI, Z_putR, Z_putN, Z_putQ, Z_putZ, Z_new, Z_newarray, Z_anewarray, Z_alen, Z_cast, Z_objInit, Z_clone, Z_getClass, Z_copy, Z_max, Z_min, Y_iaload, Y_baload, Y_aaload, Y_iastore, Y_bastore, Y_aastore, Y_aastoreN, lt_0p, lt_1n, va_some, va_none, Option.toList_some, Option.toList_none, List.nil_append, List.cons_append, List.length_nil, List.length_cons, true_and, and_true, if_true, if_false, ite_true, ite_false, Nat.zero_le, Nat.not_lt_zero, Nat.reduceLeDiff, Nat.reduceEqDiff, Nat.reduceAdd, Nat.reduceMul, Nat.reduceSub, Nat.reduceLT, Nat.zero_add, not_true_eq_false, not_false_eq_true, true_or, or_true, false_or, or_false, Nat.add_zero, false_and, and_false, exists_eq_left', Option.some.injEq, k_X9_send_0, sk_X9_send_20, k_X9_send_20, sk_X9_send_66, sk_X9_send_98, k_X9_send_98, Q_X9_send, nI_add, pk_mul, ar_lt, ar_le, ar_eq, z_lt, z_le, z_gt, z_ge, z_eq, z_eq2, ix_nI, nI_clamp, ne_eq, hM.k0, hM.f1, hM.k1, hM.l1, hM.f2, hM.k2, hM.l2, hM.f3, hM.k3, hM.l3, hM.f4, hM.k4, hM.l4, hM.f5, hM.k5, hM.l5, hM.f6, hM.k6, hM.l6, hM.f7, hM.k7, hM.l7, hM.f8, hM.k8, hM.l8, hM.f9, hM.k9, hM.l9, hM.f10, hM.k10, hM.l10, hM.f11, hM.k11, hM.l11, hM.f12, hM.k12, hM.l12, hM.f13, hM.k13, hM.l13, hM.f14, hM.k14, hM.l14, hM.f15, hM.k15, hM.l15, hM.f16, hM.k16, hM.l16, hM.f17, hM.k17, hM.l17, hM.f18, hM.k18, hM.l18, hM.f19, hM.k19, hM.l19, hM.f20, hM.k20, hM.l20, hM.f21, hM.k21, hM.l21, hM.f22, hM.k22, hM.l22, hM.f23, hM.k23, hM.l23, kd_wfI, ln_wfI, fI_wfI, fR_wfI, aI_wfI, aR_wfI, gc_wfI, sz_wfI, sl_wfI, kd_wfR, ln_wfR, fI_wfR, fR_wfR, aI_wfR, aR_wfR, gc_wfR, sz_wfR, sl_wfR, kd_waI, ln_waI, fI_waI, fR_waI, aI_waI, aR_waI, gc_waI, sz_waI, sl_waI, kd_waR, ln_waR, fI_waR, fR_waR, aI_waR, aR_waR, gc_waR, sz_waR, sl_waR, kd_hnew, ln_hnew, fI_hnew, fR_hnew, aI_hnew, aR_hnew, gc_hnew, sz_hnew, sl_hnew, e17, hfull, ac_eq, c0, c1, c2, c3])
      exact hfin
    · simp (disch := first | omega | assumption) only [Z_iconst, Z_bipush, Z_sipush, Z_ldc, Z_ldcM, Z_ldcw, Z_null, Z_getstatic, Z_iload0, Z_aload0, Z_aloadq0, Z_aloadn0, Z_istore0, Z_astore0, Z_astoreq0, Z_astoren0, Z_iinc0, Z_iload1, Z_aload1, Z_aloadq1, Z_aloadn1, Z_istore1, Z_astore1, Z_astoreq1, Z_astoren1, Z_iinc1, Z_iload2, Z_aload2, Z_aloadq2, Z_aloadn2, Z_istore2, Z_astore2, Z_astoreq2, Z_astoren2, Z_iinc2, Z_iload3, Z_aload3, Z_aloadq3, Z_aloadn3, Z_istore3, Z_astore3, Z_astoreq3, Z_astoren3, Z_iinc3, Z_iload4, Z_aload4, Z_aloadq4, Z_aloadn4, Z_istore4, Z_astore4, Z_astoreq4, Z_astoren4, Z_iinc4, Z_iload5, Z_aload5, Z_aloadq5, Z_aloadn5, Z_istore5, Z_astore5, Z_astoreq5, Z_astoren5, Z_iinc5, Z_iload6, Z_aload6, Z_aloadq6, Z_aloadn6, Z_istore6, Z_astore6, Z_astoreq6, Z_astoren6, Z_iinc6, Z_iload7, Z_aload7, Z_aloadq7, Z_aloadn7, Z_istore7, Z_astore7, Z_astoreq7, Z_astoren7, Z_iinc7, Z_iload8, Z_aload8, Z_aloadq8, Z_aloadn8, Z_istore8, Z_astore8, Z_astoreq8, Z_astoren8, Z_iinc8, Z_iload9, Z_aload9, Z_aloadq9, Z_aloadn9, Z_istore9, Z_astore9, Z_astoreq9, Z_astoren9, Z_iinc9, Z_iload10, Z_aload10, Z_aloadq10, Z_aloadn10, Z_istore10, Z_astore10, Z_astoreq10, Z_astoren10, Z_iinc10, Z_iload11, Z_aload11, Z_aloadq11, Z_aloadn11, Z_istore11, Z_astore11, Z_astoreq11, Z_astoren11, Z_iinc11, Z_iload12, Z_aload12, Z_aloadq12, Z_aloadn12, Z_istore12, Z_astore12, Z_astoreq12, Z_astoren12, Z_iinc12, Z_iadd, Z_isub, Z_imul, Z_iand, Z_ior, Z_ishl, Z_ishr, Z_iushr, Z_idiv, Z_irem, Z_dup, Z_dupx1, Z_dup2, Z_pop, Z_if_eq, Z_icmp_eq, Z_if_ne, Z_icmp_ne, Z_if_lt, Z_icmp_lt, Z_if_le, Z_icmp_le, Z_if_ge, Z_icmp_ge, Z_if_gt, Z_icmp_gt, Z_acmp_eqq1, Z_acmp_eqq2, Z_acmp_eqq3, Z_acmp_eqq4, Z_acmp_neq1, Z_acmp_neq2, Z_acmp_neq3, Z_acmp_neq4, Z_ifnull, Z_ifnullN, Z_ifnullq, Z_ifnonnull, Z_ifnonnullN, Z_ifnonnullq, Z_goto, Z_getI, Z_getZ, Z_getR, Z_putI, Z_putR, Z_putN, Z_putQ, Z_putZ, Z_new, Z_newarray, Z_anewarray, Z_alen, Z_cast, Z_objInit, Z_clone, Z_getClass, Z_copy, Z_max, Z_min, Y_iaload, Y_baload, Y_aaload, Y_iastore, Y_bastore, Y_aastore, Y_aastoreN, lt_0p, lt_1n, va_some, va_none, Option.toList_some, Option.toList_none, List.nil_append, List.cons_append, List.length_nil, List.length_cons, true_and, and_true, if_true, if_false, ite_true, ite_false, Nat.zero_le, Nat.not_lt_zero, Nat.reduceLeDiff, Nat.reduceEqDiff, Nat.reduceAdd, Nat.reduceMul, Nat.reduceSub, Nat.reduceLT, Nat.zero_add, not_true_eq_false, not_false_eq_true, true_or, or_true, false_or, or_false, Nat.add_zero, false_and, and_false, exists_eq_left', Option.some.injEq, k_X9_send_0, sk_X9_send_20, k_X9_send_20, sk_X9_send_66, sk_X9_send_98, k_X9_send_98, Q_X9_send, E_X9_send, nI_add, pk_mul, ar_lt, ar_le, ar_eq, z_lt, z_le, z_gt, z_ge, z_eq, z_eq2, ix_nI, nI_clamp, ne_eq, hM.k0, hM.f1, hM.k1, hM.l1, hM.f2, hM.k2, hM.l2, hM.f3, hM.k3, hM.l3, hM.f4, hM.k4, hM.l4, hM.f5, hM.k5, hM.l5, hM.f6, hM.k6, hM.l6, hM.f7, hM.k7, hM.l7, hM.f8, hM.k8, hM.l8, hM.f9, hM.k9, hM.l9, hM.f10, hM.k10, hM.l10, hM.f11, hM.k11, hM.l11, hM.f12, hM.k12, hM.l12, hM.f13, hM.k13, hM.l13, hM.f14, hM.k14, hM.l14, hM.f15, hM.k15, hM.l15, hM.f16, hM.k16, hM.l16, hM.f17, hM.k17, hM.l17, hM.f18, hM.k18, hM.l18, hM.f19, hM.k19, hM.l19, hM.f20, hM.k20, hM.l20, hM.f21, hM.k21, hM.l21, hM.f22, hM.k22, hM.l22, hM.f23, hM.k23, hM.l23, kd_wfI, ln_wfI, fI_wfI, fR_wfI, aI_wfI, aR_wfI, gc_wfI, sz_wfI, sl_wfI, kd_wfR, ln_wfR, fI_wfR, fR_wfR, aI_wfR, aR_wfR, gc_wfR, sz_wfR, sl_wfR, kd_waI, ln_waI, fI_waI, fR_waI, aI_waI, aR_waI, gc_waI, sz_waI, sl_waI, kd_waR, ln_waR, fI_waR, fR_waR, aI_waR, aR_waR, gc_waR, sz_waR, sl_waR, kd_hnew, ln_hnew, fI_hnew, fR_hnew, aI_hnew, aR_hnew, gc_hnew, sz_hnew, sl_hnew, e17, hfull, ac_eq, c0, c1, c2, c3]
      iterate 5 (rw [k_X9_send_66]; simp (disch := first | omega | assumption) only [Z_iconst, Z_bipush, Z_sipush, Z_ldc, Z_ldcM, Z_ldcw, Z_null, Z_getstatic, Z_iload0, Z_aload0, Z_aloadq0, Z_aloadn0, Z_istore0, Z_astore0, Z_astoreq0, Z_astoren0, Z_iinc0, Z_iload1, Z_aload1, Z_aloadq1, Z_aloadn1, Z_istore1, Z_astore1, Z_astoreq1, Z_astoren1, Z_iinc1, Z_iload2, Z_aload2, Z_aloadq2, Z_aloadn2, Z_istore2, Z_astore2, Z_astoreq2, Z_astoren2, Z_iinc2, Z_iload3, Z_aload3, Z_aloadq3, Z_aloadn3, Z_istore3, Z_astore3, Z_astoreq3, Z_astoren3, Z_iinc3, Z_iload4, Z_aload4, Z_aloadq4, Z_aloadn4, Z_istore4, Z_astore4, Z_astoreq4, Z_astoren4, Z_iinc4, Z_iload5, Z_aload5, Z_aloadq5, Z_aloadn5, Z_istore5, Z_astore5, Z_astoreq5, Z_astoren5, Z_iinc5, Z_iload6, Z_aload6, Z_aloadq6, Z_aloadn6, Z_istore6, Z_astore6, Z_astoreq6, Z_astoren6, Z_iinc6, Z_iload7, Z_aload7, Z_aloadq7, Z_aloadn7, Z_istore7, Z_astore7, Z_astoreq7, Z_astoren7, Z_iinc7, Z_iload8, Z_aload8, Z_aloadq8, Z_aloadn8, Z_istore8, Z_astore8, Z_astoreq8, Z_astoren8, Z_iinc8, Z_iload9, Z_aload9, Z_aloadq9, Z_aloadn9, Z_istore9, Z_astore9, Z_astoreq9, Z_astoren9, Z_iinc9, Z_iload10, Z_aload10, Z_aloadq10, Z_aloadn10, Z_istore10, Z_astore10, Z_astoreq10, Z_astoren10, Z_iinc10, Z_iload11, Z_aload11, Z_aloadq11, Z_aloadn11, Z_istore11, Z_astore11, Z_astoreq11, Z_astoren11, Z_iinc11, Z_iload12, Z_aload12, Z_aloadq12, Z_aloadn12, Z_istore12, Z_astore12, Z_astoreq12, Z_astoren12, Z_iinc12, Z_iadd, Z_isub, Z_imul, Z_iand, Z_ior, Z_ishl, Z_ishr, Z_iushr, Z_idiv, Z_irem, Z_dup, Z_dupx1, Z_dup2, Z_pop, Z_if_eq, Z_icmp_eq, Z_if_ne, Z_icmp_ne, Z_if_lt, Z_icmp_lt, Z_if_le, Z_icmp_le, Z_if_ge, Z_icmp_ge, Z_if_gt, Z_icmp_gt, Z_acmp_eqq1, Z_acmp_eqq2, Z_acmp_eqq3, Z_acmp_eqq4, Z_acmp_neq1, Z_acmp_neq2, Z_acmp_neq3, Z_acmp_neq4, Z_ifnull, Z_ifnullN, Z_ifnullq, Z_ifnonnull, Z_ifnonnullN, Z_ifnonnullq, Z_goto, Z_getI, Z_getZ, Z_getR, Z_putI, Z_putR, Z_putN, Z_putQ, Z_putZ, Z_new, Z_newarray, Z_anewarray, Z_alen, Z_cast, Z_objInit, Z_clone, Z_getClass, Z_copy, Z_max, Z_min, Y_iaload, Y_baload, Y_aaload, Y_iastore, Y_bastore, Y_aastore, Y_aastoreN, lt_0p, lt_1n, va_some, va_none, Option.toList_some, Option.toList_none, List.nil_append, List.cons_append, List.length_nil, List.length_cons, true_and, and_true, if_true, if_false, ite_true, ite_false, Nat.zero_le, Nat.not_lt_zero, Nat.reduceLeDiff, Nat.reduceEqDiff, Nat.reduceAdd, Nat.reduceMul, Nat.reduceSub, Nat.reduceLT, Nat.zero_add, not_true_eq_false, not_false_eq_true, true_or, or_true, false_or, or_false, Nat.add_zero, false_and, and_false, exists_eq_left', Option.some.injEq, k_X9_send_0, sk_X9_send_20, k_X9_send_20, sk_X9_send_66, sk_X9_send_98, k_X9_send_98, Q_X9_send, nI_add, pk_mul, ar_lt, ar_le, ar_eq, z_lt, z_le, z_gt, z_ge, z_eq, z_eq2, ix_nI, nI_clamp, ne_eq, hM.k0, hM.f1, hM.k1, hM.l1, hM.f2, hM.k2, hM.l2, hM.f3, hM.k3, hM.l3, hM.f4, hM.k4, hM.l4, hM.f5, hM.k5, hM.l5, hM.f6, hM.k6, hM.l6, hM.f7, hM.k7, hM.l7, hM.f8, hM.k8, hM.l8, hM.f9, hM.k9, hM.l9, hM.f10, hM.k10, hM.l10, hM.f11, hM.k11, hM.l11, hM.f12, hM.k12, hM.l12, hM.f13, hM.k13, hM.l13, hM.f14, hM.k14, hM.l14, hM.f15, hM.k15, hM.l15, hM.f16, hM.k16, hM.l16, hM.f17, hM.k17, hM.l17, hM.f18, hM.k18, hM.l18, hM.f19, hM.k19, hM.l19, hM.f20, hM.k20, hM.l20, hM.f21, hM.k21, hM.l21, hM.f22, hM.k22, hM.l22, hM.f23, hM.k23, hM.l23, kd_wfI, ln_wfI, fI_wfI, fR_wfI, aI_wfI, aR_wfI, gc_wfI, sz_wfI, sl_wfI, kd_wfR, ln_wfR, fI_wfR, fR_wfR, aI_wfR, aR_wfR, gc_wfR, sz_wfR, sl_wfR, kd_waI, ln_waI, fI_waI, fR_waI, aI_waI, aR_waI, gc_waI, sz_waI, sl_waI, kd_waR, ln_waR, fI_waR, fR_waR, aI_waR, aR_waR, gc_waR, sz_waR, sl_waR, kd_hnew, ln_hnew, fI_hnew, fR_hnew, aI_hnew, aR_hnew, gc_hnew, sz_hnew, sl_hnew, e17, hfull, ac_eq, c0, c1, c2, c3])
      exact hfin
end
section
/-- operation o is done at r -/
def doo (s : St) (r o : Nat) : St := w_sTi (w_sOw (w_sDn s (fu (sDn s) r (sDn s r ++ [o]))) (fu (sOw s) r (fu (sOw s r) (o / 60) (sOw s r (o / 60) + 1)))) (fu (sTi s) r (max (sTi s r) (sTm s o)))
theorem doo_MR {g r o : Nat} {h : Hp} {s : St} (hR : MR g h s) (hr : r < 4) (ho : o < 240) (hlen : (sDn s r).length < 240) (hB : Bd s) : MR g (waI (waI (waI (waI (waI h (g + 13) (240 * r + o) (nI 1)) (g + 12) (240 * r + (sDn s r).length) (nI o)) (g + 11) r (nI ((sDn s r).length + 1))) (g + 9) (4 * r + o / 60) (nI (sOw s r (o / 60) + 1))) (g + 10) r (nI (max (sTi s r) (sTm s o)))) (doo s r o) := by
  refine ⟨?_, ?_, ?_, ?_, ?_, ?_, ?_, ?_, ?_, ?_, ?_, ?_, ?_, ?_, ?_, ?_, ?_, ?_, ?_, ?_⟩
  · intro r' hr'; simp only [aI_waI, aI_wfI, ac_eq, Nat.reduceEqDiff, false_and, if_false, ite_false]; exact hR.c1 r' hr'
  · intro o' ho'; simp only [aI_waI, aI_wfI, ac_eq, Nat.reduceEqDiff, false_and, if_false, ite_false]; exact hR.c2 o' ho'
  · intro o' ho'; simp only [aI_waI, aI_wfI, ac_eq, Nat.reduceEqDiff, false_and, if_false, ite_false]; exact hR.c3 o' ho'
  · intro o' ho'; simp only [aI_waI, aI_wfI, ac_eq, Nat.reduceEqDiff, false_and, if_false, ite_false]; exact hR.c4 o' ho'
  · intro o' ho'; simp only [aI_waI, aI_wfI, ac_eq, Nat.reduceEqDiff, false_and, if_false, ite_false]; exact hR.c5 o' ho'
  · intro o' ho'; simp only [aI_waI, aI_wfI, ac_eq, Nat.reduceEqDiff, false_and, if_false, ite_false]; exact hR.c6 o' ho'
  · intro o' j' ho' hj'; simp only [aI_waI, aI_wfI, ac_eq, Nat.reduceEqDiff, false_and, if_false, ite_false]; exact hR.c7 o' j' ho' hj'
  · intro r' hr'; simp only [aI_waI, aI_wfI, ac_eq, Nat.reduceEqDiff, false_and, if_false, ite_false]; exact hR.c8 r' hr'
  · intro r' j' hr' hj'
    simp only [aI_waI, ac_eq, Nat.reduceEqDiff, false_and, if_false, true_and]
    show _ = nI (fu (sOw s) r (fu (sOw s r) (o / 60) (sOw s r (o / 60) + 1)) r' j')
    unfold fu
    by_cases h1 : r' = r
    · subst h1
      rw [if_pos rfl]
      by_cases h2 : j' = o / 60
      · rw [if_pos (by omega), if_pos h2]
      · rw [if_neg (by omega), if_neg h2]
        exact hR.c9 r' j' hr' hj'
    · rw [if_neg (by omega), if_neg h1]
      exact hR.c9 r' j' hr' hj'
  · intro r' hr'
    simp only [aI_waI, ac_eq, Nat.reduceEqDiff, false_and, if_false, true_and]
    show _ = nI (fu (sTi s) r (max (sTi s r) (sTm s o)) r')
    unfold fu
    by_cases h1 : r' = r
    · rw [if_pos h1, if_pos h1]
    · rw [if_neg h1, if_neg h1]
      exact hR.c10 r' hr'
  · intro r' hr'
    simp only [aI_waI, ac_eq, Nat.reduceEqDiff, false_and, if_false, true_and]
    show _ = nI (fu (sDn s) r (sDn s r ++ [o]) r').length
    unfold fu
    by_cases h1 : r' = r
    · rw [if_pos h1, if_pos h1, List.length_append]
      rfl
    · rw [if_neg h1, if_neg h1]
      exact hR.c11 r' hr'
  · intro r' k' hr' hk'
    have hk' : k' < (fu (sDn s) r (sDn s r ++ [o]) r').length := hk'
    simp only [aI_waI, ac_eq, Nat.reduceEqDiff, false_and, if_false, true_and]
    show _ = nI ((fu (sDn s) r (sDn s r ++ [o]) r').getD k' 0)
    have hl' := (hB.2.2.1 r' hr').2.1
    unfold fu at hk' ⊢
    by_cases h1 : r' = r
    · subst h1
      rw [if_pos rfl] at hk' ⊢
      rw [List.length_append, List.length_singleton] at hk'
      rw [gd_app]
      by_cases h2 : k' = (sDn s r').length
      · rw [if_pos (by omega), if_neg (by omega), if_pos h2]
      · rw [if_neg (by omega), if_pos (by omega)]
        exact hR.c12 r' k' hr' (by omega)
    · rw [if_neg h1] at hk' ⊢
      rw [if_neg (by omega)]
      exact hR.c12 r' k' hr' hk'
  · intro r' o' hr' ho'
    simp only [aI_waI, ac_eq, Nat.reduceEqDiff, false_and, if_false, true_and]
    show _ = nI (nb (decide (o' ∈ fu (sDn s) r (sDn s r ++ [o]) r')))
    unfold fu
    by_cases h1 : r' = r
    · subst h1
      rw [if_pos rfl]
      by_cases h2 : o' = o
      · subst h2
        rw [if_pos rfl, decide_eq_true (List.mem_append_right _ (List.mem_singleton.mpr rfl))]
        rfl
      · rw [if_neg (by omega)]
        have : (o' ∈ sDn s r' ++ [o]) ↔ (o' ∈ sDn s r') := by simp [h2]
        simp only [this]
        exact hR.c13 r' o' hr' ho'
    · rw [if_neg (by omega), if_neg h1]
      exact hR.c13 r' o' hr' ho'
  · intro r' hr'; simp only [aI_waI, aI_wfI, ac_eq, Nat.reduceEqDiff, false_and, if_false, ite_false]; exact hR.c14 r' hr'
  · intro r' k' hr' hk'; simp only [aI_waI, aI_wfI, ac_eq, Nat.reduceEqDiff, false_and, if_false, ite_false]; exact hR.c15 r' k' hr' hk'
  · intro r' i' j' hr' hi' hj'; simp only [aI_waI, aI_wfI, ac_eq, Nat.reduceEqDiff, false_and, if_false, ite_false]; exact hR.c16 r' i' j' hr' hi' hj'
  · intro w' hw'; simp only [aI_waI, aI_wfI, ac_eq, Nat.reduceEqDiff, false_and, if_false, ite_false]; exact hR.c17 w' hw'
  · intro w' k' hw' hk'; simp only [aI_waI, aI_wfI, ac_eq, Nat.reduceEqDiff, false_and, if_false, ite_false]; exact hR.c18 w' k' hw' hk'
  · intro w' k' hw' hk'; simp only [aI_waI, aI_wfI, ac_eq, Nat.reduceEqDiff, false_and, if_false, ite_false]; exact hR.c19 w' k' hw' hk'
  · intro w' k' j' hw' hk' hj'; simp only [aI_waI, aI_wfI, ac_eq, Nat.reduceEqDiff, false_and, if_false, ite_false]; exact hR.c20 w' k' j' hw' hk' hj'
theorem c_doOperation {g r o : Nat} {h : Hp} {s : St} {P : Option Value → Hp → Prop} (hM : ML g h) (hR : MR g h s) (hB : Bd s) (hr : r < 4) (ho : o < 240) (hlen : (sDn s r).length < 240) (hP : ∀ h', Fr g h h' → MR g h' (doo s r o) → P none h') : Ev M_X9_doOperation [.ref g, .int (nI r), .int (nI o)] h P := by
  have b1 := (hB.2.2.1 r hr).1
  have b2 := (hB.2.1 o ho).2.2.1
  have b3 := (hB.2.2.1 r hr).2.2.2.2.2.1 (o / 60) (by omega)
  have e11 := hR.c11 r hr
  have e9 := hR.c9 r (o / 60) hr (by omega)
  have e10 := hR.c10 r hr
  have e6 := hR.c6 o ho
  have hfin := hP _ (((((Fr.rf.wa (k := 13) (j := 240 * r + o) (v := nI 1) (by decide) (by decide)).wa (k := 12) (j := 240 * r + (sDn s r).length) (v := nI o) (by decide) (by decide)).wa (k := 11) (j := r) (v := nI ((sDn s r).length + 1)) (by decide) (by decide)).wa (k := 9) (j := 4 * r + o / 60) (v := nI (sOw s r (o / 60) + 1)) (by decide) (by decide)).wa (k := 10) (j := r) (v := nI (max (sTi s r) (sTm s o))) (by decide) (by decide)) (doo_MR hR hr ho hlen hB)
  by_cases c1 : sTm s o ≤ sTi s r
  · rw [Nat.max_eq_left c1] at hfin
    simp (disch := first | omega | assumption) only [Z_iconst, Z_bipush, Z_sipush, Z_ldc, Z_ldcM, Z_ldcw, Z_null, Z_getstatic, Z_iload0, Z_aload0, Z_aloadq0, Z_aloadn0, Z_istore0, Z_astore0, Z_astoreq0, Z_astoren0, Z_iinc0, Z_iload1, Z_aload1, Z_aloadq1, Z_aloadn1, Z_istore1, Z_astore1, Z_astoreq1, Z_astoren1, Z_iinc1, Z_iload2, Z_aload2, Z_aloadq2, Z_aloadn2, Z_istore2, Z_astore2, Z_astoreq2, Z_astoren2, Z_iinc2, Z_iload3, Z_aload3, Z_aloadq3, Z_aloadn3, Z_istore3, Z_astore3, Z_astoreq3, Z_astoren3, Z_iinc3, Z_iload4, Z_aload4, Z_aloadq4, Z_aloadn4, Z_istore4, Z_astore4, Z_astoreq4, Z_astoren4, Z_iinc4, Z_iload5, Z_aload5, Z_aloadq5, Z_aloadn5, Z_istore5, Z_astore5, Z_astoreq5, Z_astoren5, Z_iinc5, Z_iload6, Z_aload6, Z_aloadq6, Z_aloadn6, Z_istore6, Z_astore6, Z_astoreq6, Z_astoren6, Z_iinc6, Z_iload7, Z_aload7, Z_aloadq7, Z_aloadn7, Z_istore7, Z_astore7, Z_astoreq7, Z_astoren7, Z_iinc7, Z_iload8, Z_aload8, Z_aloadq8, Z_aloadn8, Z_istore8, Z_astore8, Z_astoreq8, Z_astoren8, Z_iinc8, Z_iload9, Z_aload9, Z_aloadq9, Z_aloadn9, Z_istore9, Z_astore9, Z_astoreq9, Z_astoren9, Z_iinc9, Z_iload10, Z_aload10, Z_aloadq10, Z_aloadn10, Z_istore10, Z_astore10, Z_astoreq10, Z_astoren10, Z_iinc10, Z_iload11, Z_aload11, Z_aloadq11, Z_aloadn11, Z_istore11, Z_astore11, Z_astoreq11, Z_astoren11, Z_iinc11, Z_iload12, Z_aload12, Z_aloadq12, Z_aloadn12, Z_istore12, Z_astore12, Z_astoreq12, Z_astoren12, Z_iinc12, Z_iadd, Z_isub, Z_imul, Z_iand, Z_ior, Z_ishl, Z_ishr, Z_iushr, Z_idiv, Z_irem, Z_dup, Z_dupx1, Z_dup2, Z_pop, Z_if_eq, Z_icmp_eq, Z_if_ne, Z_icmp_ne, Z_if_lt, Z_icmp_lt, Z_if_le, Z_icmp_le, Z_if_ge, Z_icmp_ge, Z_if_gt, Z_icmp_gt, Z_acmp_eqq1, Z_acmp_eqq2, Z_acmp_eqq3, Z_acmp_eqq4, Z_acmp_neq1, Z_acmp_neq2, Z_acmp_neq3, Z_acmp_neq4, Z_ifnull, Z_ifnullN, Z_ifnullq, Z_ifnonnull, Z_ifnonnullN, Z_ifnonnullq, Z_goto, Z_getI, Z_getZ, Z_getR, Z_putI, Z_putR, Z_putN, Z_putQ, Z_putZ, Z_new, Z_newarray, Z_anewarray, Z_alen, Z_cast, Z_objInit, Z_clone, Z_getClass, Z_copy, Z_max, Z_min, Y_iaload, Y_baload, Y_aaload, Y_iastore, Y_bastore, Y_aastore, Y_aastoreN, lt_0p, lt_1n, va_some, va_none, Option.toList_some, Option.toList_none, List.nil_append, List.cons_append, List.length_nil, List.length_cons, true_and, and_true, if_true, if_false, ite_true, ite_false, Nat.zero_le, Nat.not_lt_zero, Nat.reduceLeDiff, Nat.reduceEqDiff, Nat.reduceAdd, Nat.reduceMul, Nat.reduceSub, Nat.reduceLT, Nat.zero_add, not_true_eq_false, not_false_eq_true, true_or, or_true, false_or, or_false, Nat.add_zero, false_and, and_false, exists_eq_left', Option.some.injEq, k_X9_doOperation_0, sk_X9_doOperation_87, k_X9_doOperation_87, sk_X9_doOperation_93, k_X9_doOperation_93, Q_X9_doOperation, C_X9_ownerOf, E_X9_doOperation, nI_add, pk_mul, ar_lt, ar_le, ar_eq, z_lt, z_le, z_gt, z_ge, z_eq, z_eq2, ix_nI, nI_clamp, ne_eq, hM.k0, hM.f1, hM.k1, hM.l1, hM.f2, hM.k2, hM.l2, hM.f3, hM.k3, hM.l3, hM.f4, hM.k4, hM.l4, hM.f5, hM.k5, hM.l5, hM.f6, hM.k6, hM.l6, hM.f7, hM.k7, hM.l7, hM.f8, hM.k8, hM.l8, hM.f9, hM.k9, hM.l9, hM.f10, hM.k10, hM.l10, hM.f11, hM.k11, hM.l11, hM.f12, hM.k12, hM.l12, hM.f13, hM.k13, hM.l13, hM.f14, hM.k14, hM.l14, hM.f15, hM.k15, hM.l15, hM.f16, hM.k16, hM.l16, hM.f17, hM.k17, hM.l17, hM.f18, hM.k18, hM.l18, hM.f19, hM.k19, hM.l19, hM.f20, hM.k20, hM.l20, hM.f21, hM.k21, hM.l21, hM.f22, hM.k22, hM.l22, hM.f23, hM.k23, hM.l23, kd_wfI, ln_wfI, fI_wfI, fR_wfI, aI_wfI, aR_wfI, gc_wfI, sz_wfI, sl_wfI, kd_wfR, ln_wfR, fI_wfR, fR_wfR, aI_wfR, aR_wfR, gc_wfR, sz_wfR, sl_wfR, kd_waI, ln_waI, fI_waI, fR_waI, aI_waI, aR_waI, gc_waI, sz_waI, sl_waI, kd_waR, ln_waR, fI_waR, fR_waR, aI_waR, aR_waR, gc_waR, sz_waR, sl_waR, kd_hnew, ln_hnew, fI_hnew, fR_hnew, aI_hnew, aR_hnew, gc_hnew, sz_hnew, sl_hnew, ac_eq, e11, e9, e10, e6, e_ownerOf o ho, c1, z_eq2]
    exact hfin
  · rw [Nat.max_eq_right (by omega)] at hfin
    simp (disch := first | omega | assumption) only [Z_iconst, Z_bipush, Z_sipush, Z_ldc, Z_ldcM, Z_ldcw, Z_null, Z_getstatic, Z_iload0, Z_aload0, Z_aloadq0, Z_aloadn0, Z_istore0, Z_astore0, Z_astoreq0, Z_astoren0, Z_iinc0, Z_iload1, Z_aload1, Z_aloadq1, Z_aloadn1, Z_istore1, Z_astore1, Z_astoreq1, Z_astoren1, Z_iinc1, Z_iload2, Z_aload2, Z_aloadq2, Z_aloadn2, Z_istore2, Z_astore2, Z_astoreq2, Z_astoren2, Z_iinc2, Z_iload3, Z_aload3, Z_aloadq3, Z_aloadn3, Z_istore3, Z_astore3, Z_astoreq3, Z_astoren3, Z_iinc3, Z_iload4, Z_aload4, Z_aloadq4, Z_aloadn4, Z_istore4, Z_astore4, Z_astoreq4, Z_astoren4, Z_iinc4, Z_iload5, Z_aload5, Z_aloadq5, Z_aloadn5, Z_istore5, Z_astore5, Z_astoreq5, Z_astoren5, Z_iinc5, Z_iload6, Z_aload6, Z_aloadq6, Z_aloadn6, Z_istore6, Z_astore6, Z_astoreq6, Z_astoren6, Z_iinc6, Z_iload7, Z_aload7, Z_aloadq7, Z_aloadn7, Z_istore7, Z_astore7, Z_astoreq7, Z_astoren7, Z_iinc7, Z_iload8, Z_aload8, Z_aloadq8, Z_aloadn8, Z_istore8, Z_astore8, Z_astoreq8, Z_astoren8, Z_iinc8, Z_iload9, Z_aload9, Z_aloadq9, Z_aloadn9, Z_istore9, Z_astore9, Z_astoreq9, Z_astoren9, Z_iinc9, Z_iload10, Z_aload10, Z_aloadq10, Z_aloadn10, Z_istore10, Z_astore10, Z_astoreq10, Z_astoren10, Z_iinc10, Z_iload11, Z_aload11, Z_aloadq11, Z_aloadn11, Z_istore11, Z_astore11, Z_astoreq11, Z_astoren11, Z_iinc11, Z_iload12, Z_aload12, Z_aloadq12, Z_aloadn12, Z_istore12, Z_astore12, Z_astoreq12, Z_astoren12, Z_iinc12, Z_iadd, Z_isub, Z_imul, Z_iand, Z_ior, Z_ishl, Z_ishr, Z_iushr, Z_idiv, Z_irem, Z_dup, Z_dupx1, Z_dup2, Z_pop, Z_if_eq, Z_icmp_eq, Z_if_ne, Z_icmp_ne, Z_if_lt, Z_icmp_lt, Z_if_le, Z_icmp_le, Z_if_ge, Z_icmp_ge, Z_if_gt, Z_icmp_gt, Z_acmp_eqq1, Z_acmp_eqq2, Z_acmp_eqq3, Z_acmp_eqq4, Z_acmp_neq1, Z_acmp_neq2, Z_acmp_neq3, Z_acmp_neq4, Z_ifnull, Z_ifnullN, Z_ifnullq, Z_ifnonnull, Z_ifnonnullN, Z_ifnonnullq, Z_goto, Z_getI, Z_getZ, Z_getR, Z_putI, Z_putR, Z_putN, Z_putQ, Z_putZ, Z_new, Z_newarray, Z_anewarray, Z_alen, Z_cast, Z_objInit, Z_clone, Z_getClass, Z_copy, Z_max, Z_min, Y_iaload, Y_baload, Y_aaload, Y_iastore, Y_bastore, Y_aastore, Y_aastoreN, lt_0p, lt_1n, va_some, va_none, Option.toList_some, Option.toList_none, List.nil_append, List.cons_append, List.length_nil, List.length_cons, true_and, and_true, if_true, if_false, ite_true, ite_false, Nat.zero_le, Nat.not_lt_zero, Nat.reduceLeDiff, Nat.reduceEqDiff, Nat.reduceAdd, Nat.reduceMul, Nat.reduceSub, Nat.reduceLT, Nat.zero_add, not_true_eq_false, not_false_eq_true, true_or, or_true, false_or, or_false, Nat.add_zero, false_and, and_false, exists_eq_left', Option.some.injEq, k_X9_doOperation_0, sk_X9_doOperation_87, k_X9_doOperation_87, sk_X9_doOperation_93, k_X9_doOperation_93, Q_X9_doOperation, C_X9_ownerOf, E_X9_doOperation, nI_add, pk_mul, ar_lt, ar_le, ar_eq, z_lt, z_le, z_gt, z_ge, z_eq, z_eq2, ix_nI, nI_clamp, ne_eq, hM.k0, hM.f1, hM.k1, hM.l1, hM.f2, hM.k2, hM.l2, hM.f3, hM.k3, hM.l3, hM.f4, hM.k4, hM.l4, hM.f5, hM.k5, hM.l5, hM.f6, hM.k6, hM.l6, hM.f7, hM.k7, hM.l7, hM.f8, hM.k8, hM.l8, hM.f9, hM.k9, hM.l9, hM.f10, hM.k10, hM.l10, hM.f11, hM.k11, hM.l11, hM.f12, hM.k12, hM.l12, hM.f13, hM.k13, hM.l13, hM.f14, hM.k14, hM.l14, hM.f15, hM.k15, hM.l15, hM.f16, hM.k16, hM.l16, hM.f17, hM.k17, hM.l17, hM.f18, hM.k18, hM.l18, hM.f19, hM.k19, hM.l19, hM.f20, hM.k20, hM.l20, hM.f21, hM.k21, hM.l21, hM.f22, hM.k22, hM.l22, hM.f23, hM.k23, hM.l23, kd_wfI, ln_wfI, fI_wfI, fR_wfI, aI_wfI, aR_wfI, gc_wfI, sz_wfI, sl_wfI, kd_wfR, ln_wfR, fI_wfR, fR_wfR, aI_wfR, aR_wfR, gc_wfR, sz_wfR, sl_wfR, kd_waI, ln_waI, fI_waI, fR_waI, aI_waI, aR_waI, gc_waI, sz_waI, sl_waI, kd_waR, ln_waR, fI_waR, fR_waR, aI_waR, aR_waR, gc_waR, sz_waR, sl_waR, kd_hnew, ln_hnew, fI_hnew, fR_hnew, aI_hnew, aR_hnew, gc_hnew, sz_hnew, sl_hnew, ac_eq, e11, e9, e10, e6, e_ownerOf o ho, c1, z_eq2]
    exact hfin
theorem c_sendOperation {g f t o : Nat} {h : Hp} {s : St} {P : Option Value → Hp → Prop} (hM : ML g h) (hR : MR g h s) (hB : Bd s) (hf : f < 4) (ht : t < 4) (ho : o < 240) (hP : ∀ h', Fr g h h' → MR g h' (snd s (4 * f + t) (0, o, sCk s o)) → P none h') : Ev M_X9_sendOperation [.ref g, .int (nI f), .int (nI t), .int (nI o)] h P := by
  simp (disch := first | omega | assumption) only [Z_iconst, Z_bipush, Z_sipush, Z_ldc, Z_ldcM, Z_ldcw, Z_null, Z_getstatic, Z_iload0, Z_aload0, Z_aloadq0, Z_aloadn0, Z_istore0, Z_astore0, Z_astoreq0, Z_astoren0, Z_iinc0, Z_iload1, Z_aload1, Z_aloadq1, Z_aloadn1, Z_istore1, Z_astore1, Z_astoreq1, Z_astoren1, Z_iinc1, Z_iload2, Z_aload2, Z_aloadq2, Z_aloadn2, Z_istore2, Z_astore2, Z_astoreq2, Z_astoren2, Z_iinc2, Z_iload3, Z_aload3, Z_aloadq3, Z_aloadn3, Z_istore3, Z_astore3, Z_astoreq3, Z_astoren3, Z_iinc3, Z_iload4, Z_aload4, Z_aloadq4, Z_aloadn4, Z_istore4, Z_astore4, Z_astoreq4, Z_astoren4, Z_iinc4, Z_iload5, Z_aload5, Z_aloadq5, Z_aloadn5, Z_istore5, Z_astore5, Z_astoreq5, Z_astoren5, Z_iinc5, Z_iload6, Z_aload6, Z_aloadq6, Z_aloadn6, Z_istore6, Z_astore6, Z_astoreq6, Z_astoren6, Z_iinc6, Z_iload7, Z_aload7, Z_aloadq7, Z_aloadn7, Z_istore7, Z_astore7, Z_astoreq7, Z_astoren7, Z_iinc7, Z_iload8, Z_aload8, Z_aloadq8, Z_aloadn8, Z_istore8, Z_astore8, Z_astoreq8, Z_astoren8, Z_iinc8, Z_iload9, Z_aload9, Z_aloadq9, Z_aloadn9, Z_istore9, Z_astore9, Z_astoreq9, Z_astoren9, Z_iinc9, Z_iload10, Z_aload10, Z_aloadq10, Z_aloadn10, Z_istore10, Z_astore10, Z_astoreq10, Z_astoren10, Z_iinc10, Z_iload11, Z_aload11, Z_aloadq11, Z_aloadn11, Z_istore11, Z_astore11, Z_astoreq11, Z_astoren11, Z_iinc11, Z_iload12, Z_aload12, Z_aloadq12, Z_aloadn12, Z_istore12, Z_astore12, Z_astoreq12, Z_astoren12, Z_iinc12, Z_iadd, Z_isub, Z_imul, Z_iand, Z_ior, Z_ishl, Z_ishr, Z_iushr, Z_idiv, Z_irem, Z_dup, Z_dupx1, Z_dup2, Z_pop, Z_if_eq, Z_icmp_eq, Z_if_ne, Z_icmp_ne, Z_if_lt, Z_icmp_lt, Z_if_le, Z_icmp_le, Z_if_ge, Z_icmp_ge, Z_if_gt, Z_icmp_gt, Z_acmp_eqq1, Z_acmp_eqq2, Z_acmp_eqq3, Z_acmp_eqq4, Z_acmp_neq1, Z_acmp_neq2, Z_acmp_neq3, Z_acmp_neq4, Z_ifnull, Z_ifnullN, Z_ifnullq, Z_ifnonnull, Z_ifnonnullN, Z_ifnonnullq, Z_goto, Z_getI, Z_getZ, Z_getR, Z_putI, Z_putR, Z_putN, Z_putQ, Z_putZ, Z_new, Z_newarray, Z_anewarray, Z_alen, Z_cast, Z_objInit, Z_clone, Z_getClass, Z_copy, Z_max, Z_min, Y_iaload, Y_baload, Y_aaload, Y_iastore, Y_bastore, Y_aastore, Y_aastoreN, lt_0p, lt_1n, va_some, va_none, Option.toList_some, Option.toList_none, List.nil_append, List.cons_append, List.length_nil, List.length_cons, true_and, and_true, if_true, if_false, ite_true, ite_false, Nat.zero_le, Nat.not_lt_zero, Nat.reduceLeDiff, Nat.reduceEqDiff, Nat.reduceAdd, Nat.reduceMul, Nat.reduceSub, Nat.reduceLT, Nat.zero_add, not_true_eq_false, not_false_eq_true, true_or, or_true, false_or, or_false, Nat.add_zero, false_and, and_false, exists_eq_left', Option.some.injEq, k_X9_sendOperation_0, Q_X9_sendOperation, C_X9_send, E_X9_sendOperation, nI_add, pk_mul, ar_lt, ar_le, ar_eq, z_lt, z_le, z_gt, z_ge, z_eq, z_eq2, ix_nI, nI_clamp, ne_eq, hM.k0, hM.f1, hM.k1, hM.l1, hM.f2, hM.k2, hM.l2, hM.f3, hM.k3, hM.l3, hM.f4, hM.k4, hM.l4, hM.f5, hM.k5, hM.l5, hM.f6, hM.k6, hM.l6, hM.f7, hM.k7, hM.l7, hM.f8, hM.k8, hM.l8, hM.f9, hM.k9, hM.l9, hM.f10, hM.k10, hM.l10, hM.f11, hM.k11, hM.l11, hM.f12, hM.k12, hM.l12, hM.f13, hM.k13, hM.l13, hM.f14, hM.k14, hM.l14, hM.f15, hM.k15, hM.l15, hM.f16, hM.k16, hM.l16, hM.f17, hM.k17, hM.l17, hM.f18, hM.k18, hM.l18, hM.f19, hM.k19, hM.l19, hM.f20, hM.k20, hM.l20, hM.f21, hM.k21, hM.l21, hM.f22, hM.k22, hM.l22, hM.f23, hM.k23, hM.l23, kd_wfI, ln_wfI, fI_wfI, fR_wfI, aI_wfI, aR_wfI, gc_wfI, sz_wfI, sl_wfI, kd_wfR, ln_wfR, fI_wfR, fR_wfR, aI_wfR, aR_wfR, gc_wfR, sz_wfR, sl_wfR, kd_waI, ln_waI, fI_waI, fR_waI, aI_waI, aR_waI, gc_waI, sz_waI, sl_waI, kd_waR, ln_waR, fI_waR, fR_waR, aI_waR, aR_waR, gc_waR, sz_waR, sl_waR, kd_hnew, ln_hnew, fI_hnew, fR_hnew, aI_hnew, aR_hnew, gc_hnew, sz_hnew, sl_hnew, ac_eq]
  refine c_send hM hR hB hf ht (by omega) ho (Or.inl ⟨rfl, by omega⟩) (fun j hj => hR.c7 o j ho hj) (fun h' h1 h2 => ?_)
  simp (disch := first | omega | assumption) only [Z_iconst, Z_bipush, Z_sipush, Z_ldc, Z_ldcM, Z_ldcw, Z_null, Z_getstatic, Z_iload0, Z_aload0, Z_aloadq0, Z_aloadn0, Z_istore0, Z_astore0, Z_astoreq0, Z_astoren0, Z_iinc0, Z_iload1, Z_aload1, Z_aloadq1, Z_aloadn1, Z_istore1, Z_astore1, Z_astoreq1, Z_astoren1, Z_iinc1, Z_iload2, Z_aload2, Z_aloadq2, Z_aloadn2, Z_istore2, Z_astore2, Z_astoreq2, Z_astoren2, Z_iinc2, Z_iload3, Z_aload3, Z_aloadq3, Z_aloadn3, Z_istore3, Z_astore3, Z_astoreq3, Z_astoren3, Z_iinc3, Z_iload4, Z_aload4, Z_aloadq4, Z_aloadn4, Z_istore4, Z_astore4, Z_astoreq4, Z_astoren4, Z_iinc4, Z_iload5, Z_aload5, Z_aloadq5, Z_aloadn5, Z_istore5, Z_astore5, Z_astoreq5, Z_astoren5, Z_iinc5, Z_iload6, Z_aload6, Z_aloadq6, Z_aloadn6, Z_istore6, Z_astore6, Z_astoreq6, Z_astoren6, Z_iinc6, Z_iload7, Z_aload7, Z_aloadq7, Z_aloadn7, Z_istore7, Z_astore7, Z_astoreq7, Z_astoren7, Z_iinc7, Z_iload8, Z_aload8, Z_aloadq8, Z_aloadn8, Z_istore8, Z_astore8, Z_astoreq8, Z_astoren8, Z_iinc8, Z_iload9, Z_aload9, Z_aloadq9, Z_aloadn9, Z_istore9, Z_astore9, Z_astoreq9, Z_astoren9, Z_iinc9, Z_iload10, Z_aload10, Z_aloadq10, Z_aloadn10, Z_istore10, Z_astore10, Z_astoreq10, Z_astoren10, Z_iinc10, Z_iload11, Z_aload11, Z_aloadq11, Z_aloadn11, Z_istore11, Z_astore11, Z_astoreq11, Z_astoren11, Z_iinc11, Z_iload12, Z_aload12, Z_aloadq12, Z_aloadn12, Z_istore12, Z_astore12, Z_astoreq12, Z_astoren12, Z_iinc12, Z_iadd, Z_isub, Z_imul, Z_iand, Z_ior, Z_ishl, Z_ishr, Z_iushr, Z_idiv, Z_irem, Z_dup, Z_dupx1, Z_dup2, Z_pop, Z_if_eq, Z_icmp_eq, Z_if_ne, Z_icmp_ne, Z_if_lt, Z_icmp_lt, Z_if_le, Z_icmp_le, Z_if_ge, Z_icmp_ge, Z_if_gt, Z_icmp_gt, Z_acmp_eqq1, Z_acmp_eqq2, Z_acmp_eqq3, Z_acmp_eqq4, Z_acmp_neq1, Z_acmp_neq2, Z_acmp_neq3, Z_acmp_neq4, Z_ifnull, Z_ifnullN, Z_ifnullq, Z_ifnonnull, Z_ifnonnullN, Z_ifnonnullq, Z_goto, Z_getI, Z_getZ, Z_getR, Z_putI, Z_putR, Z_putN, Z_putQ, Z_putZ, Z_new, Z_newarray, Z_anewarray, Z_alen, Z_cast, Z_objInit, Z_clone, Z_getClass, Z_copy, Z_max, Z_min, Y_iaload, Y_baload, Y_aaload, Y_iastore, Y_bastore, Y_aastore, Y_aastoreN, lt_0p, lt_1n, va_some, va_none, Option.toList_some, Option.toList_none, List.nil_append, List.cons_append, List.length_nil, List.length_cons, true_and, and_true, if_true, if_false, ite_true, ite_false, Nat.zero_le, Nat.not_lt_zero, Nat.reduceLeDiff, Nat.reduceEqDiff, Nat.reduceAdd, Nat.reduceMul, Nat.reduceSub, Nat.reduceLT, Nat.zero_add, not_true_eq_false, not_false_eq_true, true_or, or_true, false_or, or_false, Nat.add_zero, false_and, and_false, exists_eq_left', Option.some.injEq, k_X9_sendOperation_0, Q_X9_sendOperation, C_X9_send]
  exact hP h' h1 h2
end
section
/-! bounds stay -/
theorem mem_app1 {α : Type} {l : List α} {q x : α} (h : x ∈ l ++ [q]) : x ∈ l ∨ x = q := by
  rcases List.mem_append.mp h with h | h
  · exact Or.inl h
  · exact Or.inr (List.mem_singleton.mp h)
theorem Bd_snd {s : St} {w : Nat} {q : Mg} (hB : Bd s) (hq : q.1 ≤ 2 ∧ (q.1 = 0 → q.2.1 < 240) ∧ (q.1 ≠ 0 → q.2.1 < 4) ∧ ∀ j, j < 4 → q.2.2 j ≤ 60) : Bd (snd s w q) := by
  unfold snd
  split
  · exact hB
  · rename_i hne
    refine ⟨hB.1, hB.2.1, hB.2.2.1, fun w' hw' => ?_⟩
    show (fu (sWy s) w (sWy s w ++ [q]) w').length ≤ 30 ∧ ∀ z ∈ fu (sWy s) w (sWy s w ++ [q]) w', _
    have h1 := hB.2.2.2 w' hw'
    unfold fu
    by_cases hww : w' = w
    · subst hww
      rw [if_pos rfl]
      refine ⟨by rw [List.length_append, List.length_singleton]; omega, fun z hz => ?_⟩
      rcases mem_app1 hz with hz | rfl
      · exact h1.2 z hz
      · exact hq
    · rw [if_neg hww]
      exact h1
theorem Bd_doo {s : St} {r o : Nat} (hB : Bd s) (ho : o < 240) (how : sOw s r (o / 60) < 60) (hlen : (sDn s r).length < 240) : Bd (doo s r o) := by
  refine ⟨hB.1, hB.2.1, fun r' hr' => ?_, hB.2.2.2⟩
  have h1 := hB.2.2.1 r' hr'
  have h2 := (hB.2.1 o ho).2.2.1
  show fu (sTi s) r (max (sTi s r) (sTm s o)) r' ≤ 100000 ∧ (fu (sDn s) r (sDn s r ++ [o]) r').length ≤ 240 ∧ (sWt s r').length ≤ 239 ∧ (∀ z ∈ fu (sDn s) r (sDn s r ++ [o]) r', z < 240) ∧ (∀ z ∈ sWt s r', z < 240) ∧ (∀ j, j < 4 → fu (sOw s) r (fu (sOw s r) (o / 60) (sOw s r (o / 60) + 1)) r' j ≤ 60) ∧ ∀ i j, i < 4 → j < 4 → sKw s r' i j ≤ 60
  unfold fu
  by_cases hrr : r' = r
  · subst hrr
    rw [if_pos rfl, if_pos rfl, if_pos rfl]
    refine ⟨Nat.max_le.mpr ⟨h1.1, h2⟩, by rw [List.length_append, List.length_singleton]; omega, h1.2.2.1, fun z hz => ?_, h1.2.2.2.2.1, fun j hj => ?_, h1.2.2.2.2.2.2⟩
    · rcases mem_app1 hz with hz | rfl
      · exact h1.2.2.2.1 z hz
      · exact ho
    · by_cases hjo : j = o / 60
      · rw [if_pos hjo]
        omega
      · rw [if_neg hjo]
        exact h1.2.2.2.2.2.1 j hj
  · rw [if_neg hrr, if_neg hrr, if_neg hrr]
    exact h1
/-- a new operation's own data -/
def rec_ (s : St) (r k t : Nat) (v : Int32) (b : Option Nat) : St := w_sMk (w_sKn (w_sTg (w_sVl (w_sBh (w_sTm s (fu (sTm s) (60 * r + sMk s r) (sTi s r + 1))) (fu (sBh s) (60 * r + sMk s r) b)) (fu (sVl s) (60 * r + sMk s r) v)) (fu (sTg s) (60 * r + sMk s r) t)) (fu (sKn s) (60 * r + sMk s r) k)) (fu (sMk s) r (sMk s r + 1))
theorem Bd_rec {s : St} {r k t : Nat} {v : Int32} {b : Option Nat} (hB : Bd s) (hm : sMk s r < 60) (hk : k ≤ 5) (ht : t ≤ 1) (hb : ∀ p, b = some p → p < 240) (hti : sTi s r < 100000) : Bd (rec_ s r k t v b) := by
  refine ⟨fun r' hr' => ?_, fun o ho => ?_, hB.2.2.1, hB.2.2.2⟩
  · show fu (sMk s) r (sMk s r + 1) r' ≤ 60
    unfold fu
    split
    · omega
    · exact hB.1 r' hr'
  · have h1 := hB.2.1 o ho
    show fu (sKn s) (60 * r + sMk s r) k o ≤ 5 ∧ fu (sTg s) (60 * r + sMk s r) t o ≤ 1 ∧ fu (sTm s) (60 * r + sMk s r) (sTi s r + 1) o ≤ 100000 ∧ (∀ p, fu (sBh s) (60 * r + sMk s r) b o = some p → p < 240) ∧ ∀ j, j < 4 → sCk s o j ≤ 60
    unfold fu
    by_cases hoo : o = 60 * r + sMk s r
    · rw [if_pos hoo, if_pos hoo, if_pos hoo, if_pos hoo]
      exact ⟨hk, ht, by omega, hb, h1.2.2.2.2⟩
    · rw [if_neg hoo, if_neg hoo, if_neg hoo, if_neg hoo]
      exact h1
def clk_ (s : St) (r o : Nat) : St := w_sCk s (fu (sCk s) o (sOw s r))
theorem Bd_clk {s : St} {r o : Nat} (hB : Bd s) (hr : r < 4) : Bd (clk_ s r o) := by
  refine ⟨hB.1, fun o' ho' => ?_, hB.2.2.1, hB.2.2.2⟩
  have h1 := hB.2.1 o' ho'
  refine ⟨h1.1, h1.2.1, h1.2.2.1, h1.2.2.2.1, fun j hj => ?_⟩
  show fu (sCk s) o (sOw s r) o' j ≤ 60
  unfold fu
  split
  · exact (hB.2.2.1 r hr).2.2.2.2.2.1 j hj
  · exact h1.2.2.2.2 j hj
theorem rec_MR {g r k t : Nat} {v : Int32} {b : Option Nat} {h : Hp} {s : St} (hR : MR g h s) : MR g (waI (waI (waI (waI (waI (waI h (g + 1) r (nI (sMk s r + 1))) (g + 2) (60 * r + sMk s r) (nI k)) (g + 3) (60 * r + sMk s r) (nI t)) (g + 4) (60 * r + sMk s r) v) (g + 5) (60 * r + sMk s r) (bhI b)) (g + 6) (60 * r + sMk s r) (nI (sTi s r + 1))) (rec_ s r k t v b) := by
  refine ⟨?_, ?_, ?_, ?_, ?_, ?_, ?_, ?_, ?_, ?_, ?_, ?_, ?_, ?_, ?_, ?_, ?_, ?_, ?_, ?_⟩
  · intro r' hr'
    simp only [aI_waI, ac_eq, Nat.reduceEqDiff, false_and, if_false, true_and]
    show _ = nI (fu (sMk s) r (sMk s r + 1) r')
    unfold fu
    split
    · rfl
    · exact hR.c1 r' hr'
  · intro o' ho'
    simp only [aI_waI, ac_eq, Nat.reduceEqDiff, false_and, if_false, true_and]
    show _ = nI (fu (sKn s) (60 * r + sMk s r) k o')
    unfold fu
    split
    · rfl
    · exact hR.c2 o' ho'
  · intro o' ho'
    simp only [aI_waI, ac_eq, Nat.reduceEqDiff, false_and, if_false, true_and]
    show _ = nI (fu (sTg s) (60 * r + sMk s r) t o')
    unfold fu
    split
    · rfl
    · exact hR.c3 o' ho'
  · intro o' ho'
    simp only [aI_waI, ac_eq, Nat.reduceEqDiff, false_and, if_false, true_and]
    show _ = fu (sVl s) (60 * r + sMk s r) v o'
    unfold fu
    split
    · rfl
    · exact hR.c4 o' ho'
  · intro o' ho'
    simp only [aI_waI, ac_eq, Nat.reduceEqDiff, false_and, if_false, true_and]
    show _ = bhI (fu (sBh s) (60 * r + sMk s r) b o')
    unfold fu
    split
    · rfl
    · exact hR.c5 o' ho'
  · intro o' ho'
    simp only [aI_waI, ac_eq, Nat.reduceEqDiff, false_and, if_false, true_and]
    show _ = nI (fu (sTm s) (60 * r + sMk s r) (sTi s r + 1) o')
    unfold fu
    split
    · rfl
    · exact hR.c6 o' ho'
  · intro o' j' ho' hj'; simp only [aI_waI, aI_wfI, ac_eq, Nat.reduceEqDiff, false_and, if_false, ite_false]; exact hR.c7 o' j' ho' hj'
  · intro r' hr'; simp only [aI_waI, aI_wfI, ac_eq, Nat.reduceEqDiff, false_and, if_false, ite_false]; exact hR.c8 r' hr'
  · intro r' j' hr' hj'; simp only [aI_waI, aI_wfI, ac_eq, Nat.reduceEqDiff, false_and, if_false, ite_false]; exact hR.c9 r' j' hr' hj'
  · intro r' hr'; simp only [aI_waI, aI_wfI, ac_eq, Nat.reduceEqDiff, false_and, if_false, ite_false]; exact hR.c10 r' hr'
  · intro r' hr'; simp only [aI_waI, aI_wfI, ac_eq, Nat.reduceEqDiff, false_and, if_false, ite_false]; exact hR.c11 r' hr'
  · intro r' k' hr' hk'; simp only [aI_waI, aI_wfI, ac_eq, Nat.reduceEqDiff, false_and, if_false, ite_false]; exact hR.c12 r' k' hr' hk'
  · intro r' o' hr' ho'; simp only [aI_waI, aI_wfI, ac_eq, Nat.reduceEqDiff, false_and, if_false, ite_false]; exact hR.c13 r' o' hr' ho'
  · intro r' hr'; simp only [aI_waI, aI_wfI, ac_eq, Nat.reduceEqDiff, false_and, if_false, ite_false]; exact hR.c14 r' hr'
  · intro r' k' hr' hk'; simp only [aI_waI, aI_wfI, ac_eq, Nat.reduceEqDiff, false_and, if_false, ite_false]; exact hR.c15 r' k' hr' hk'
  · intro r' i' j' hr' hi' hj'; simp only [aI_waI, aI_wfI, ac_eq, Nat.reduceEqDiff, false_and, if_false, ite_false]; exact hR.c16 r' i' j' hr' hi' hj'
  · intro w' hw'; simp only [aI_waI, aI_wfI, ac_eq, Nat.reduceEqDiff, false_and, if_false, ite_false]; exact hR.c17 w' hw'
  · intro w' k' hw' hk'; simp only [aI_waI, aI_wfI, ac_eq, Nat.reduceEqDiff, false_and, if_false, ite_false]; exact hR.c18 w' k' hw' hk'
  · intro w' k' hw' hk'; simp only [aI_waI, aI_wfI, ac_eq, Nat.reduceEqDiff, false_and, if_false, ite_false]; exact hR.c19 w' k' hw' hk'
  · intro w' k' j' hw' hk' hj'; simp only [aI_waI, aI_wfI, ac_eq, Nat.reduceEqDiff, false_and, if_false, ite_false]; exact hR.c20 w' k' j' hw' hk' hj'
theorem clk_MR {g r o : Nat} {h : Hp} {s : St} (hR : MR g h s) (ho : o < 240) : MR g (waI (waI (waI (waI h (g + 7) (4 * o) (nI (sOw s r 0))) (g + 7) (4 * o + 1) (nI (sOw s r 1))) (g + 7) (4 * o + 2) (nI (sOw s r 2))) (g + 7) (4 * o + 3) (nI (sOw s r 3))) (clk_ s r o) := by
  refine ⟨?_, ?_, ?_, ?_, ?_, ?_, ?_, ?_, ?_, ?_, ?_, ?_, ?_, ?_, ?_, ?_, ?_, ?_, ?_, ?_⟩
  · intro r' hr'; simp only [aI_waI, aI_wfI, ac_eq, Nat.reduceEqDiff, false_and, if_false, ite_false]; exact hR.c1 r' hr'
  · intro o' ho'; simp only [aI_waI, aI_wfI, ac_eq, Nat.reduceEqDiff, false_and, if_false, ite_false]; exact hR.c2 o' ho'
  · intro o' ho'; simp only [aI_waI, aI_wfI, ac_eq, Nat.reduceEqDiff, false_and, if_false, ite_false]; exact hR.c3 o' ho'
  · intro o' ho'; simp only [aI_waI, aI_wfI, ac_eq, Nat.reduceEqDiff, false_and, if_false, ite_false]; exact hR.c4 o' ho'
  · intro o' ho'; simp only [aI_waI, aI_wfI, ac_eq, Nat.reduceEqDiff, false_and, if_false, ite_false]; exact hR.c5 o' ho'
  · intro o' ho'; simp only [aI_waI, aI_wfI, ac_eq, Nat.reduceEqDiff, false_and, if_false, ite_false]; exact hR.c6 o' ho'
  · intro o' j' ho' hj'
    simp only [aI_waI, ac_eq, Nat.reduceEqDiff, false_and, if_false, true_and]
    show _ = nI (fu (sCk s) o (sOw s r) o' j')
    unfold fu
    by_cases hoo : o' = o
    · subst hoo
      rw [if_pos rfl]
      rcases (show j' = 0 ∨ j' = 1 ∨ j' = 2 ∨ j' = 3 by omega) with rfl | rfl | rfl | rfl
      · rw [if_neg (by omega), if_neg (by omega), if_neg (by omega), if_pos (by omega)]
      · rw [if_neg (by omega), if_neg (by omega), if_pos (by omega)]
      · rw [if_neg (by omega), if_pos (by omega)]
      · rw [if_pos (by omega)]
    · rw [if_neg hoo, if_neg (by omega), if_neg (by omega), if_neg (by omega), if_neg (by omega)]
      exact hR.c7 o' j' ho' hj'
  · intro r' hr'; simp only [aI_waI, aI_wfI, ac_eq, Nat.reduceEqDiff, false_and, if_false, ite_false]; exact hR.c8 r' hr'
  · intro r' j' hr' hj'; simp only [aI_waI, aI_wfI, ac_eq, Nat.reduceEqDiff, false_and, if_false, ite_false]; exact hR.c9 r' j' hr' hj'
  · intro r' hr'; simp only [aI_waI, aI_wfI, ac_eq, Nat.reduceEqDiff, false_and, if_false, ite_false]; exact hR.c10 r' hr'
  · intro r' hr'; simp only [aI_waI, aI_wfI, ac_eq, Nat.reduceEqDiff, false_and, if_false, ite_false]; exact hR.c11 r' hr'
  · intro r' k' hr' hk'; simp only [aI_waI, aI_wfI, ac_eq, Nat.reduceEqDiff, false_and, if_false, ite_false]; exact hR.c12 r' k' hr' hk'
  · intro r' o' hr' ho'; simp only [aI_waI, aI_wfI, ac_eq, Nat.reduceEqDiff, false_and, if_false, ite_false]; exact hR.c13 r' o' hr' ho'
  · intro r' hr'; simp only [aI_waI, aI_wfI, ac_eq, Nat.reduceEqDiff, false_and, if_false, ite_false]; exact hR.c14 r' hr'
  · intro r' k' hr' hk'; simp only [aI_waI, aI_wfI, ac_eq, Nat.reduceEqDiff, false_and, if_false, ite_false]; exact hR.c15 r' k' hr' hk'
  · intro r' i' j' hr' hi' hj'; simp only [aI_waI, aI_wfI, ac_eq, Nat.reduceEqDiff, false_and, if_false, ite_false]; exact hR.c16 r' i' j' hr' hi' hj'
  · intro w' hw'; simp only [aI_waI, aI_wfI, ac_eq, Nat.reduceEqDiff, false_and, if_false, ite_false]; exact hR.c17 w' hw'
  · intro w' k' hw' hk'; simp only [aI_waI, aI_wfI, ac_eq, Nat.reduceEqDiff, false_and, if_false, ite_false]; exact hR.c18 w' k' hw' hk'
  · intro w' k' hw' hk'; simp only [aI_waI, aI_wfI, ac_eq, Nat.reduceEqDiff, false_and, if_false, ite_false]; exact hR.c19 w' k' hw' hk'
  · intro w' k' j' hw' hk' hj'; simp only [aI_waI, aI_wfI, ac_eq, Nat.reduceEqDiff, false_and, if_false, ite_false]; exact hR.c20 w' k' j' hw' hk' hj'
end
section
def sdo (s : St) (r o t : Nat) : St := if t = r then s else snd s (4 * r + t) (0, o, sCk s o)
def sdoF (r o : Nat) : Nat → Nat → St → St
  | 0, _, s => s
  | n + 1, t, s => sdoF r o n (t + 1) (sdo s r o t)
theorem mk_snd (s : St) (w : Nat) (q : Mg) : sMk (snd s w q) = sMk s := by unfold snd; split <;> rfl
theorem ck_snd (s : St) (w : Nat) (q : Mg) : sCk (snd s w q) = sCk s := by unfold snd; split <;> rfl
theorem mk_sdo (s : St) (r o t : Nat) : sMk (sdo s r o t) = sMk s := by unfold sdo; split; rfl; exact mk_snd _ _ _
theorem ck_sdo (s : St) (r o t : Nat) : sCk (sdo s r o t) = sCk s := by unfold sdo; split; rfl; exact ck_snd _ _ _
theorem Bd_sdo {s : St} {r o t : Nat} (hB : Bd s) (ho : o < 240) : Bd (sdo s r o t) := by
  unfold sdo
  split
  · exact hB
  · exact Bd_snd hB ⟨by show 0 ≤ 2; decide, fun _ => ho, fun z => absurd rfl z, fun j hj => (hB.2.1 o ho).2.2.2.2 j hj⟩
theorem l_new {g r o : Nat} {k0 k1 k2 k3 : Option Value} {P : Option Value → Hp → Prop} (hr : r < 4) (ho : o < 240) : ∀ (n t : Nat) (h : Hp) (s : St), ML g h → MR g h s → Bd s → t + n = 4 → (∀ h', Fr g h h' → MR g h' (sdoF r o n t s) → P (some (.int (nI (sMk s r)))) h') →
    Z M_X9_newOperation k_X9_newOperation_146 [some (.ref g), some (.int (nI r)), k0, k1, k2, k3, some (.int (nI o)), some (.int (nI t))] [] h P := by
  intro n
  induction n with
  | zero =>
    intro t h s hM hR hB ht hP
    obtain rfl : t = 4 := by omega
    rw [k_X9_newOperation_146]
    simp (disch := first | omega | assumption) only [Z_iconst, Z_bipush, Z_sipush, Z_ldc, Z_ldcM, Z_ldcw, Z_null, Z_getstatic, Z_iload0, Z_aload0, Z_aloadq0, Z_aloadn0, Z_istore0, Z_astore0, Z_astoreq0, Z_astoren0, Z_iinc0, Z_iload1, Z_aload1, Z_aloadq1, Z_aloadn1, Z_istore1, Z_astore1, Z_astoreq1, Z_astoren1, Z_iinc1, Z_iload2, Z_aload2, Z_aloadq2, Z_aloadn2, Z_istore2, Z_astore2, Z_astoreq2, Z_astoren2, Z_iinc2, Z_iload3, Z_aload3, Z_aloadq3, Z_aloadn3, Z_istore3, Z_astore3, Z_astoreq3, Z_astoren3, Z_iinc3, Z_iload4, Z_aload4, Z_aloadq4, Z_aloadn4, Z_istore4, Z_astore4, Z_astoreq4, Z_astoren4, Z_iinc4, Z_iload5, Z_aload5, Z_aloadq5, Z_aloadn5, Z_istore5, Z_astore5, Z_astoreq5, Z_astoren5, Z_iinc5, Z_iload6, Z_aload6, Z_aloadq6, Z_aloadn6, Z_istore6, Z_astore6, Z_astoreq6, Z_astoren6, Z_iinc6, Z_iload7, Z_aload7, Z_aloadq7, Z_aloadn7, Z_istore7, Z_astore7, Z_astoreq7, Z_astoren7, Z_iinc7, Z_iload8, Z_aload8, Z_aloadq8, Z_aloadn8, Z_istore8, Z_astore8, Z_astoreq8, Z_astoren8, Z_iinc8, Z_iload9, Z_aload9, Z_aloadq9, Z_aloadn9, Z_istore9, Z_astore9, Z_astoreq9, Z_astoren9, Z_iinc9, Z_iload10, Z_aload10, Z_aloadq10, Z_aloadn10, Z_istore10, Z_astore10, Z_astoreq10, Z_astoren10, Z_iinc10, Z_iload11, Z_aload11, Z_aloadq11, Z_aloadn11, Z_istore11, Z_astore11, Z_astoreq11, Z_astoren11, Z_iinc11, Z_iload12, Z_aload12, Z_aloadq12, Z_aloadn12, Z_istore12, Z_astore12, Z_astoreq12, Z_astoren12, Z_iinc12, Z_iadd, Z_isub, Z_imul, Z_iand, Z_ior, Z_ishl, Z_ishr, Z_iushr, Z_idiv, Z_irem, Z_dup, Z_dupx1, Z_dup2, Z_pop, Z_if_eq, Z_icmp_eq, Z_if_ne, Z_icmp_ne, Z_if_lt, Z_icmp_lt, Z_if_le, Z_icmp_le, Z_if_ge, Z_icmp_ge, Z_if_gt, Z_icmp_gt, Z_acmp_eqq1, Z_acmp_eqq2, Z_acmp_eqq3, Z_acmp_eqq4, Z_acmp_neq1, Z_acmp_neq2, Z_acmp_neq3, Z_acmp_neq4, Z_ifnull, Z_ifnullN, Z_ifnullq, Z_ifnonnull, Z_ifnonnullN, Z_ifnonnullq, Z_goto, Z_getI, Z_getZ, Z_getR, Z_putI, Z_putR, Z_putN, Z_putQ, Z_putZ, Z_new, Z_newarray, Z_anewarray, Z_alen, Z_cast, Z_objInit, Z_clone, Z_getClass, Z_copy, Z_max, Z_min, Y_iaload, Y_baload, Y_aaload, Y_iastore, Y_bastore, Y_aastore, Y_aastoreN, lt_0p, lt_1n, va_some, va_none, Option.toList_some, Option.toList_none, List.nil_append, List.cons_append, List.length_nil, List.length_cons, true_and, and_true, if_true, if_false, ite_true, ite_false, Nat.zero_le, Nat.not_lt_zero, Nat.reduceLeDiff, Nat.reduceEqDiff, Nat.reduceAdd, Nat.reduceMul, Nat.reduceSub, Nat.reduceLT, Nat.zero_add, not_true_eq_false, not_false_eq_true, true_or, or_true, false_or, or_false, Nat.add_zero, false_and, and_false, exists_eq_left', Option.some.injEq, k_X9_newOperation_0, sk_X9_newOperation_12, k_X9_newOperation_12, sk_X9_newOperation_26, k_X9_newOperation_26, sk_X9_newOperation_108, sk_X9_newOperation_143, k_X9_newOperation_143, sk_X9_newOperation_146, sk_X9_newOperation_167, k_X9_newOperation_167, sk_X9_newOperation_173, k_X9_newOperation_173, Q_X9_newOperation, C_X9_doOperation, C_X9_sendOperation, nI_add, pk_mul, ar_lt, ar_le, ar_eq, z_lt, z_le, z_gt, z_ge, z_eq, z_eq2, ix_nI, nI_clamp, ne_eq, hM.k0, hM.f1, hM.k1, hM.l1, hM.f2, hM.k2, hM.l2, hM.f3, hM.k3, hM.l3, hM.f4, hM.k4, hM.l4, hM.f5, hM.k5, hM.l5, hM.f6, hM.k6, hM.l6, hM.f7, hM.k7, hM.l7, hM.f8, hM.k8, hM.l8, hM.f9, hM.k9, hM.l9, hM.f10, hM.k10, hM.l10, hM.f11, hM.k11, hM.l11, hM.f12, hM.k12, hM.l12, hM.f13, hM.k13, hM.l13, hM.f14, hM.k14, hM.l14, hM.f15, hM.k15, hM.l15, hM.f16, hM.k16, hM.l16, hM.f17, hM.k17, hM.l17, hM.f18, hM.k18, hM.l18, hM.f19, hM.k19, hM.l19, hM.f20, hM.k20, hM.l20, hM.f21, hM.k21, hM.l21, hM.f22, hM.k22, hM.l22, hM.f23, hM.k23, hM.l23, hR.c1 r hr]
    exact hP h Fr.rf hR
  | succ n ih =>
    intro t h s hM hR hB ht hP
    have hm := hB.1 r hr
    rw [k_X9_newOperation_146]
    by_cases htr : t = r
    · subst htr
      simp (disch := first | omega | assumption) only [Z_iconst, Z_bipush, Z_sipush, Z_ldc, Z_ldcM, Z_ldcw, Z_null, Z_getstatic, Z_iload0, Z_aload0, Z_aloadq0, Z_aloadn0, Z_istore0, Z_astore0, Z_astoreq0, Z_astoren0, Z_iinc0, Z_iload1, Z_aload1, Z_aloadq1, Z_aloadn1, Z_istore1, Z_astore1, Z_astoreq1, Z_astoren1, Z_iinc1, Z_iload2, Z_aload2, Z_aloadq2, Z_aloadn2, Z_istore2, Z_astore2, Z_astoreq2, Z_astoren2, Z_iinc2, Z_iload3, Z_aload3, Z_aloadq3, Z_aloadn3, Z_istore3, Z_astore3, Z_astoreq3, Z_astoren3, Z_iinc3, Z_iload4, Z_aload4, Z_aloadq4, Z_aloadn4, Z_istore4, Z_astore4, Z_astoreq4, Z_astoren4, Z_iinc4, Z_iload5, Z_aload5, Z_aloadq5, Z_aloadn5, Z_istore5, Z_astore5, Z_astoreq5, Z_astoren5, Z_iinc5, Z_iload6, Z_aload6, Z_aloadq6, Z_aloadn6, Z_istore6, Z_astore6, Z_astoreq6, Z_astoren6, Z_iinc6, Z_iload7, Z_aload7, Z_aloadq7, Z_aloadn7, Z_istore7, Z_astore7, Z_astoreq7, Z_astoren7, Z_iinc7, Z_iload8, Z_aload8, Z_aloadq8, Z_aloadn8, Z_istore8, Z_astore8, Z_astoreq8, Z_astoren8, Z_iinc8, Z_iload9, Z_aload9, Z_aloadq9, Z_aloadn9, Z_istore9, Z_astore9, Z_astoreq9, Z_astoren9, Z_iinc9, Z_iload10, Z_aload10, Z_aloadq10, Z_aloadn10, Z_istore10, Z_astore10, Z_astoreq10, Z_astoren10, Z_iinc10, Z_iload11, Z_aload11, Z_aloadq11, Z_aloadn11, Z_istore11, Z_astore11, Z_astoreq11, Z_astoren11, Z_iinc11, Z_iload12, Z_aload12, Z_aloadq12, Z_aloadn12, Z_istore12, Z_astore12, Z_astoreq12, Z_astoren12, Z_iinc12, Z_iadd, Z_isub, Z_imul, Z_iand, Z_ior, Z_ishl, Z_ishr, Z_iushr, Z_idiv, Z_irem, Z_dup, Z_dupx1, Z_dup2, Z_pop, Z_if_eq, Z_icmp_eq, Z_if_ne, Z_icmp_ne, Z_if_lt, Z_icmp_lt, Z_if_le, Z_icmp_le, Z_if_ge, Z_icmp_ge, Z_if_gt, Z_icmp_gt, Z_acmp_eqq1, Z_acmp_eqq2, Z_acmp_eqq3, Z_acmp_eqq4, Z_acmp_neq1, Z_acmp_neq2, Z_acmp_neq3, Z_acmp_neq4, Z_ifnull, Z_ifnullN, Z_ifnullq, Z_ifnonnull, Z_ifnonnullN, Z_ifnonnullq, Z_goto, Z_getI, Z_getZ, Z_getR, Z_putI, Z_putR, Z_putN, Z_putQ, Z_putZ, Z_new, Z_newarray, Z_anewarray, Z_alen, Z_cast, Z_objInit, Z_clone, Z_getClass, Z_copy, Z_max, Z_min, Y_iaload, Y_baload, Y_aaload, Y_iastore, Y_bastore, Y_aastore, Y_aastoreN, lt_0p, lt_1n, va_some, va_none, Option.toList_some, Option.toList_none, List.nil_append, List.cons_append, List.length_nil, List.length_cons, true_and, and_true, if_true, if_false, ite_true, ite_false, Nat.zero_le, Nat.not_lt_zero, Nat.reduceLeDiff, Nat.reduceEqDiff, Nat.reduceAdd, Nat.reduceMul, Nat.reduceSub, Nat.reduceLT, Nat.zero_add, not_true_eq_false, not_false_eq_true, true_or, or_true, false_or, or_false, Nat.add_zero, false_and, and_false, exists_eq_left', Option.some.injEq, k_X9_newOperation_0, sk_X9_newOperation_12, k_X9_newOperation_12, sk_X9_newOperation_26, k_X9_newOperation_26, sk_X9_newOperation_108, sk_X9_newOperation_143, k_X9_newOperation_143, sk_X9_newOperation_146, sk_X9_newOperation_167, k_X9_newOperation_167, sk_X9_newOperation_173, k_X9_newOperation_173, Q_X9_newOperation, C_X9_doOperation, C_X9_sendOperation, nI_add, pk_mul, ar_lt, ar_le, ar_eq, z_lt, z_le, z_gt, z_ge, z_eq, z_eq2, ix_nI, nI_clamp, ne_eq, hM.k0, hM.f1, hM.k1, hM.l1, hM.f2, hM.k2, hM.l2, hM.f3, hM.k3, hM.l3, hM.f4, hM.k4, hM.l4, hM.f5, hM.k5, hM.l5, hM.f6, hM.k6, hM.l6, hM.f7, hM.k7, hM.l7, hM.f8, hM.k8, hM.l8, hM.f9, hM.k9, hM.l9, hM.f10, hM.k10, hM.l10, hM.f11, hM.k11, hM.l11, hM.f12, hM.k12, hM.l12, hM.f13, hM.k13, hM.l13, hM.f14, hM.k14, hM.l14, hM.f15, hM.k15, hM.l15, hM.f16, hM.k16, hM.l16, hM.f17, hM.k17, hM.l17, hM.f18, hM.k18, hM.l18, hM.f19, hM.k19, hM.l19, hM.f20, hM.k20, hM.l20, hM.f21, hM.k21, hM.l21, hM.f22, hM.k22, hM.l22, hM.f23, hM.k23, hM.l23, show ¬ 4 ≤ t by omega]
      refine ih (t + 1) h s hM hR hB (by omega) (fun h' h1 h2 => hP h' h1 ?_)
      unfold sdoF sdo
      rw [if_pos rfl]
      exact h2
    · simp (disch := first | omega | assumption) only [Z_iconst, Z_bipush, Z_sipush, Z_ldc, Z_ldcM, Z_ldcw, Z_null, Z_getstatic, Z_iload0, Z_aload0, Z_aloadq0, Z_aloadn0, Z_istore0, Z_astore0, Z_astoreq0, Z_astoren0, Z_iinc0, Z_iload1, Z_aload1, Z_aloadq1, Z_aloadn1, Z_istore1, Z_astore1, Z_astoreq1, Z_astoren1, Z_iinc1, Z_iload2, Z_aload2, Z_aloadq2, Z_aloadn2, Z_istore2, Z_astore2, Z_astoreq2, Z_astoren2, Z_iinc2, Z_iload3, Z_aload3, Z_aloadq3, Z_aloadn3, Z_istore3, Z_astore3, Z_astoreq3, Z_astoren3, Z_iinc3, Z_iload4, Z_aload4, Z_aloadq4, Z_aloadn4, Z_istore4, Z_astore4, Z_astoreq4, Z_astoren4, Z_iinc4, Z_iload5, Z_aload5, Z_aloadq5, Z_aloadn5, Z_istore5, Z_astore5, Z_astoreq5, Z_astoren5, Z_iinc5, Z_iload6, Z_aload6, Z_aloadq6, Z_aloadn6, Z_istore6, Z_astore6, Z_astoreq6, Z_astoren6, Z_iinc6, Z_iload7, Z_aload7, Z_aloadq7, Z_aloadn7, Z_istore7, Z_astore7, Z_astoreq7, Z_astoren7, Z_iinc7, Z_iload8, Z_aload8, Z_aloadq8, Z_aloadn8, Z_istore8, Z_astore8, Z_astoreq8, Z_astoren8, Z_iinc8, Z_iload9, Z_aload9, Z_aloadq9, Z_aloadn9, Z_istore9, Z_astore9, Z_astoreq9, Z_astoren9, Z_iinc9, Z_iload10, Z_aload10, Z_aloadq10, Z_aloadn10, Z_istore10, Z_astore10, Z_astoreq10, Z_astoren10, Z_iinc10, Z_iload11, Z_aload11, Z_aloadq11, Z_aloadn11, Z_istore11, Z_astore11, Z_astoreq11, Z_astoren11, Z_iinc11, Z_iload12, Z_aload12, Z_aloadq12, Z_aloadn12, Z_istore12, Z_astore12, Z_astoreq12, Z_astoren12, Z_iinc12, Z_iadd, Z_isub, Z_imul, Z_iand, Z_ior, Z_ishl, Z_ishr, Z_iushr, Z_idiv, Z_irem, Z_dup, Z_dupx1, Z_dup2, Z_pop, Z_if_eq, Z_icmp_eq, Z_if_ne, Z_icmp_ne, Z_if_lt, Z_icmp_lt, Z_if_le, Z_icmp_le, Z_if_ge, Z_icmp_ge, Z_if_gt, Z_icmp_gt, Z_acmp_eqq1, Z_acmp_eqq2, Z_acmp_eqq3, Z_acmp_eqq4, Z_acmp_neq1, Z_acmp_neq2, Z_acmp_neq3, Z_acmp_neq4, Z_ifnull, Z_ifnullN, Z_ifnullq, Z_ifnonnull, Z_ifnonnullN, Z_ifnonnullq, Z_goto, Z_getI, Z_getZ, Z_getR, Z_putI, Z_putR, Z_putN, Z_putQ, Z_putZ, Z_new, Z_newarray, Z_anewarray, Z_alen, Z_cast, Z_objInit, Z_clone, Z_getClass, Z_copy, Z_max, Z_min, Y_iaload, Y_baload, Y_aaload, Y_iastore, Y_bastore, Y_aastore, Y_aastoreN, lt_0p, lt_1n, va_some, va_none, Option.toList_some, Option.toList_none, List.nil_append, List.cons_append, List.length_nil, List.length_cons, true_and, and_true, if_true, if_false, ite_true, ite_false, Nat.zero_le, Nat.not_lt_zero, Nat.reduceLeDiff, Nat.reduceEqDiff, Nat.reduceAdd, Nat.reduceMul, Nat.reduceSub, Nat.reduceLT, Nat.zero_add, not_true_eq_false, not_false_eq_true, true_or, or_true, false_or, or_false, Nat.add_zero, false_and, and_false, exists_eq_left', Option.some.injEq, k_X9_newOperation_0, sk_X9_newOperation_12, k_X9_newOperation_12, sk_X9_newOperation_26, k_X9_newOperation_26, sk_X9_newOperation_108, sk_X9_newOperation_143, k_X9_newOperation_143, sk_X9_newOperation_146, sk_X9_newOperation_167, k_X9_newOperation_167, sk_X9_newOperation_173, k_X9_newOperation_173, Q_X9_newOperation, C_X9_doOperation, C_X9_sendOperation, nI_add, pk_mul, ar_lt, ar_le, ar_eq, z_lt, z_le, z_gt, z_ge, z_eq, z_eq2, ix_nI, nI_clamp, ne_eq, hM.k0, hM.f1, hM.k1, hM.l1, hM.f2, hM.k2, hM.l2, hM.f3, hM.k3, hM.l3, hM.f4, hM.k4, hM.l4, hM.f5, hM.k5, hM.l5, hM.f6, hM.k6, hM.l6, hM.f7, hM.k7, hM.l7, hM.f8, hM.k8, hM.l8, hM.f9, hM.k9, hM.l9, hM.f10, hM.k10, hM.l10, hM.f11, hM.k11, hM.l11, hM.f12, hM.k12, hM.l12, hM.f13, hM.k13, hM.l13, hM.f14, hM.k14, hM.l14, hM.f15, hM.k15, hM.l15, hM.f16, hM.k16, hM.l16, hM.f17, hM.k17, hM.l17, hM.f18, hM.k18, hM.l18, hM.f19, hM.k19, hM.l19, hM.f20, hM.k20, hM.l20, hM.f21, hM.k21, hM.l21, hM.f22, hM.k22, hM.l22, hM.f23, hM.k23, hM.l23, show ¬ 4 ≤ t by omega, htr]
      refine c_sendOperation hM hR hB hr (by omega) ho (fun h1 f1 m1 => ?_)
      simp (disch := first | omega | assumption) only [Z_iconst, Z_bipush, Z_sipush, Z_ldc, Z_ldcM, Z_ldcw, Z_null, Z_getstatic, Z_iload0, Z_aload0, Z_aloadq0, Z_aloadn0, Z_istore0, Z_astore0, Z_astoreq0, Z_astoren0, Z_iinc0, Z_iload1, Z_aload1, Z_aloadq1, Z_aloadn1, Z_istore1, Z_astore1, Z_astoreq1, Z_astoren1, Z_iinc1, Z_iload2, Z_aload2, Z_aloadq2, Z_aloadn2, Z_istore2, Z_astore2, Z_astoreq2, Z_astoren2, Z_iinc2, Z_iload3, Z_aload3, Z_aloadq3, Z_aloadn3, Z_istore3, Z_astore3, Z_astoreq3, Z_astoren3, Z_iinc3, Z_iload4, Z_aload4, Z_aloadq4, Z_aloadn4, Z_istore4, Z_astore4, Z_astoreq4, Z_astoren4, Z_iinc4, Z_iload5, Z_aload5, Z_aloadq5, Z_aloadn5, Z_istore5, Z_astore5, Z_astoreq5, Z_astoren5, Z_iinc5, Z_iload6, Z_aload6, Z_aloadq6, Z_aloadn6, Z_istore6, Z_astore6, Z_astoreq6, Z_astoren6, Z_iinc6, Z_iload7, Z_aload7, Z_aloadq7, Z_aloadn7, Z_istore7, Z_astore7, Z_astoreq7, Z_astoren7, Z_iinc7, Z_iload8, Z_aload8, Z_aloadq8, Z_aloadn8, Z_istore8, Z_astore8, Z_astoreq8, Z_astoren8, Z_iinc8, Z_iload9, Z_aload9, Z_aloadq9, Z_aloadn9, Z_istore9, Z_astore9, Z_astoreq9, Z_astoren9, Z_iinc9, Z_iload10, Z_aload10, Z_aloadq10, Z_aloadn10, Z_istore10, Z_astore10, Z_astoreq10, Z_astoren10, Z_iinc10, Z_iload11, Z_aload11, Z_aloadq11, Z_aloadn11, Z_istore11, Z_astore11, Z_astoreq11, Z_astoren11, Z_iinc11, Z_iload12, Z_aload12, Z_aloadq12, Z_aloadn12, Z_istore12, Z_astore12, Z_astoreq12, Z_astoren12, Z_iinc12, Z_iadd, Z_isub, Z_imul, Z_iand, Z_ior, Z_ishl, Z_ishr, Z_iushr, Z_idiv, Z_irem, Z_dup, Z_dupx1, Z_dup2, Z_pop, Z_if_eq, Z_icmp_eq, Z_if_ne, Z_icmp_ne, Z_if_lt, Z_icmp_lt, Z_if_le, Z_icmp_le, Z_if_ge, Z_icmp_ge, Z_if_gt, Z_icmp_gt, Z_acmp_eqq1, Z_acmp_eqq2, Z_acmp_eqq3, Z_acmp_eqq4, Z_acmp_neq1, Z_acmp_neq2, Z_acmp_neq3, Z_acmp_neq4, Z_ifnull, Z_ifnullN, Z_ifnullq, Z_ifnonnull, Z_ifnonnullN, Z_ifnonnullq, Z_goto, Z_getI, Z_getZ, Z_getR, Z_putI, Z_putR, Z_putN, Z_putQ, Z_putZ, Z_new, Z_newarray, Z_anewarray, Z_alen, Z_cast, Z_objInit, Z_clone, Z_getClass, Z_copy, Z_max, Z_min, Y_iaload, Y_baload, Y_aaload, Y_iastore, Y_bastore, Y_aastore, Y_aastoreN, lt_0p, lt_1n, va_some, va_none, Option.toList_some, Option.toList_none, List.nil_append, List.cons_append, List.length_nil, List.length_cons, true_and, and_true, if_true, if_false, ite_true, ite_false, Nat.zero_le, Nat.not_lt_zero, Nat.reduceLeDiff, Nat.reduceEqDiff, Nat.reduceAdd, Nat.reduceMul, Nat.reduceSub, Nat.reduceLT, Nat.zero_add, not_true_eq_false, not_false_eq_true, true_or, or_true, false_or, or_false, Nat.add_zero, false_and, and_false, exists_eq_left', Option.some.injEq, k_X9_newOperation_0, sk_X9_newOperation_12, k_X9_newOperation_12, sk_X9_newOperation_26, k_X9_newOperation_26, sk_X9_newOperation_108, sk_X9_newOperation_143, k_X9_newOperation_143, sk_X9_newOperation_146, sk_X9_newOperation_167, k_X9_newOperation_167, sk_X9_newOperation_173, k_X9_newOperation_173, Q_X9_newOperation, C_X9_doOperation, C_X9_sendOperation, nI_add, pk_mul, ar_lt, ar_le, ar_eq, z_lt, z_le, z_gt, z_ge, z_eq, z_eq2, ix_nI, nI_clamp, ne_eq]
      have e : sdo s r o t = snd s (4 * r + t) (0, o, sCk s o) := by unfold sdo; rw [if_neg htr]
      rw [← e] at m1
      refine ih (t + 1) h1 (sdo s r o t) (f1.ml hM) m1 (Bd_sdo hB ho) (by omega) (fun h' f2 m2 => ?_)
      rw [mk_sdo]
      exact hP h' (f1.tr f2) m2
/-- a new operation at r: what is then, and what is answered -/
def nwo (s : St) (r k t : Nat) (v : Int32) (b : Option Nat) : St := sdoF r (60 * r + sMk s r) 4 0 (clk_ (doo (rec_ s r k t v b) r (60 * r + sMk s r)) r (60 * r + sMk s r))
def nwS (s : St) (r k t : Nat) (v : Int32) (b : Option Nat) : St := if sUp s r = true ∧ sMk s r ≠ 60 then nwo s r k t v b else s
def nwR (s : St) (r : Nat) : Int32 := if sUp s r = true then (if sMk s r = 60 then - nI 3 else nI (sMk s r + 1)) else - nI 4
set_option maxHeartbeats 4000000 in
theorem c_new {g r k t : Nat} {v : Int32} {b : Option Nat} {h : Hp} {s : St} {P : Option Value → Hp → Prop} (hM : ML g h) (hR : MR g h s) (hB : Bd s) (hr : r < 4) (hk : k ≤ 5) (ht : t ≤ 1) (hb : ∀ p, b = some p → p < 240) (hti : sTi s r < 100000) (hown : sOw s r r = sMk s r) (hlen : sMk s r < 60 → (sDn s r).length < 240)
    (hP : ∀ h', Fr g h h' → MR g h' (nwS s r k t v b) → P (some (.int (nwR s r))) h') : Ev M_X9_newOperation [.ref g, .int (nI r), .int (nI k), .int (nI t), .int v, .int (bhI b)] h P := by
  have e8 := hR.c8 r hr
  have e1 := hR.c1 r hr
  have e10 := hR.c10 r hr
  have bm := hB.1 r hr
  unfold nwR nwS at hP
  cases hup : sUp s r with
  | false =>
    rw [hup] at e8 hP
    simp only [Bool.false_eq_true, false_and, if_false] at hP
    simp (disch := first | omega | assumption) only [Z_iconst, Z_bipush, Z_sipush, Z_ldc, Z_ldcM, Z_ldcw, Z_null, Z_getstatic, Z_iload0, Z_aload0, Z_aloadq0, Z_aloadn0, Z_istore0, Z_astore0, Z_astoreq0, Z_astoren0, Z_iinc0, Z_iload1, Z_aload1, Z_aloadq1, Z_aloadn1, Z_istore1, Z_astore1, Z_astoreq1, Z_astoren1, Z_iinc1, Z_iload2, Z_aload2, Z_aloadq2, Z_aloadn2, Z_istore2, Z_astore2, Z_astoreq2, Z_astoren2, Z_iinc2, Z_iload3, Z_aload3, Z_aloadq3, Z_aloadn3, Z_istore3, Z_astore3, Z_astoreq3, Z_astoren3, Z_iinc3, Z_iload4, Z_aload4, Z_aloadq4, Z_aloadn4, Z_istore4, Z_astore4, Z_astoreq4, Z_astoren4, Z_iinc4, Z_iload5, Z_aload5, Z_aloadq5, Z_aloadn5, Z_istore5, Z_astore5, Z_astoreq5, Z_astoren5, Z_iinc5, Z_iload6, Z_aload6, Z_aloadq6, Z_aloadn6, Z_istore6, Z_astore6, Z_astoreq6, Z_astoren6, Z_iinc6, Z_iload7, Z_aload7, Z_aloadq7, Z_aloadn7, Z_istore7, Z_astore7, Z_astoreq7, Z_astoren7, Z_iinc7, Z_iload8, Z_aload8, Z_aloadq8, Z_aloadn8, Z_istore8, Z_astore8, Z_astoreq8, Z_astoren8, Z_iinc8, Z_iload9, Z_aload9, Z_aloadq9, Z_aloadn9, Z_istore9, Z_astore9, Z_astoreq9, Z_astoren9, Z_iinc9, Z_iload10, Z_aload10, Z_aloadq10, Z_aloadn10, Z_istore10, Z_astore10, Z_astoreq10, Z_astoren10, Z_iinc10, Z_iload11, Z_aload11, Z_aloadq11, Z_aloadn11, Z_istore11, Z_astore11, Z_astoreq11, Z_astoren11, Z_iinc11, Z_iload12, Z_aload12, Z_aloadq12, Z_aloadn12, Z_istore12, Z_astore12, Z_astoreq12, Z_astoren12, Z_iinc12, Z_iadd, Z_isub, Z_imul, Z_iand, Z_ior, Z_ishl, Z_ishr, Z_iushr, Z_idiv, Z_irem, Z_dup, Z_dupx1, Z_dup2, Z_pop, Z_if_eq, Z_icmp_eq, Z_if_ne, Z_icmp_ne, Z_if_lt, Z_icmp_lt, Z_if_le, Z_icmp_le, Z_if_ge, Z_icmp_ge, Z_if_gt, Z_icmp_gt, Z_acmp_eqq1, Z_acmp_eqq2, Z_acmp_eqq3, Z_acmp_eqq4, Z_acmp_neq1, Z_acmp_neq2, Z_acmp_neq3, Z_acmp_neq4, Z_ifnull, Z_ifnullN, Z_ifnullq, Z_ifnonnull, Z_ifnonnullN, Z_ifnonnullq, Z_goto, Z_getI, Z_getZ, Z_getR, Z_putI, Z_putR, Z_putN, Z_putQ, Z_putZ, Z_new, Z_newarray, Z_anewarray, Z_alen, Z_cast, Z_objInit, Z_clone, Z_getClass, Z_copy, Z_max, Z_min, Y_iaload, Y_baload, Y_aaload, Y_iastore, Y_bastore, Y_aastore, Y_aastoreN, lt_0p, lt_1n, va_some, va_none, Option.toList_some, Option.toList_none, List.nil_append, List.cons_append, List.length_nil, List.length_cons, true_and, and_true, if_true, if_false, ite_true, ite_false, Nat.zero_le, Nat.not_lt_zero, Nat.reduceLeDiff, Nat.reduceEqDiff, Nat.reduceAdd, Nat.reduceMul, Nat.reduceSub, Nat.reduceLT, Nat.zero_add, not_true_eq_false, not_false_eq_true, true_or, or_true, false_or, or_false, Nat.add_zero, false_and, and_false, exists_eq_left', Option.some.injEq, k_X9_newOperation_0, sk_X9_newOperation_12, k_X9_newOperation_12, sk_X9_newOperation_26, k_X9_newOperation_26, sk_X9_newOperation_108, sk_X9_newOperation_143, k_X9_newOperation_143, sk_X9_newOperation_146, sk_X9_newOperation_167, k_X9_newOperation_167, sk_X9_newOperation_173, k_X9_newOperation_173, Q_X9_newOperation, C_X9_doOperation, C_X9_sendOperation, E_X9_newOperation, nI_add, pk_mul, ar_lt, ar_le, ar_eq, z_lt, z_le, z_gt, z_ge, z_eq, z_eq2, ix_nI, nI_clamp, ne_eq, hM.k0, hM.f1, hM.k1, hM.l1, hM.f2, hM.k2, hM.l2, hM.f3, hM.k3, hM.l3, hM.f4, hM.k4, hM.l4, hM.f5, hM.k5, hM.l5, hM.f6, hM.k6, hM.l6, hM.f7, hM.k7, hM.l7, hM.f8, hM.k8, hM.l8, hM.f9, hM.k9, hM.l9, hM.f10, hM.k10, hM.l10, hM.f11, hM.k11, hM.l11, hM.f12, hM.k12, hM.l12, hM.f13, hM.k13, hM.l13, hM.f14, hM.k14, hM.l14, hM.f15, hM.k15, hM.l15, hM.f16, hM.k16, hM.l16, hM.f17, hM.k17, hM.l17, hM.f18, hM.k18, hM.l18, hM.f19, hM.k19, hM.l19, hM.f20, hM.k20, hM.l20, hM.f21, hM.k21, hM.l21, hM.f22, hM.k22, hM.l22, hM.f23, hM.k23, hM.l23, e8, nb, Bool.false_eq_true]
    exact hP h Fr.rf hR
  | true =>
    rw [hup] at e8 hP
    simp only [true_and, if_true] at hP
    by_cases hfull : sMk s r = 60
    · rw [if_neg (fun z => z hfull), if_pos hfull] at hP
      simp (disch := first | omega | assumption) only [Z_iconst, Z_bipush, Z_sipush, Z_ldc, Z_ldcM, Z_ldcw, Z_null, Z_getstatic, Z_iload0, Z_aload0, Z_aloadq0, Z_aloadn0, Z_istore0, Z_astore0, Z_astoreq0, Z_astoren0, Z_iinc0, Z_iload1, Z_aload1, Z_aloadq1, Z_aloadn1, Z_istore1, Z_astore1, Z_astoreq1, Z_astoren1, Z_iinc1, Z_iload2, Z_aload2, Z_aloadq2, Z_aloadn2, Z_istore2, Z_astore2, Z_astoreq2, Z_astoren2, Z_iinc2, Z_iload3, Z_aload3, Z_aloadq3, Z_aloadn3, Z_istore3, Z_astore3, Z_astoreq3, Z_astoren3, Z_iinc3, Z_iload4, Z_aload4, Z_aloadq4, Z_aloadn4, Z_istore4, Z_astore4, Z_astoreq4, Z_astoren4, Z_iinc4, Z_iload5, Z_aload5, Z_aloadq5, Z_aloadn5, Z_istore5, Z_astore5, Z_astoreq5, Z_astoren5, Z_iinc5, Z_iload6, Z_aload6, Z_aloadq6, Z_aloadn6, Z_istore6, Z_astore6, Z_astoreq6, Z_astoren6, Z_iinc6, Z_iload7, Z_aload7, Z_aloadq7, Z_aloadn7, Z_istore7, Z_astore7, Z_astoreq7, Z_astoren7, Z_iinc7, Z_iload8, Z_aload8, Z_aloadq8, Z_aloadn8, Z_istore8, Z_astore8, Z_astoreq8, Z_astoren8, Z_iinc8, Z_iload9, Z_aload9, Z_aloadq9, Z_aloadn9, Z_istore9, Z_astore9, Z_astoreq9, Z_astoren9, Z_iinc9, Z_iload10, Z_aload10, Z_aloadq10, Z_aloadn10, Z_istore10, Z_astore10, Z_astoreq10, Z_astoren10, Z_iinc10, Z_iload11, Z_aload11, Z_aloadq11, Z_aloadn11, Z_istore11, Z_astore11, Z_astoreq11, Z_astoren11, Z_iinc11, Z_iload12, Z_aload12, Z_aloadq12, Z_aloadn12, Z_istore12, Z_astore12, Z_astoreq12, Z_astoren12, Z_iinc12, Z_iadd, Z_isub, Z_imul, Z_iand, Z_ior, Z_ishl, Z_ishr, Z_iushr, Z_idiv, Z_irem, Z_dup, Z_dupx1, Z_dup2, Z_pop, Z_if_eq, Z_icmp_eq, Z_if_ne, Z_icmp_ne, Z_if_lt, Z_icmp_lt, Z_if_le, Z_icmp_le, Z_if_ge, Z_icmp_ge, Z_if_gt, Z_icmp_gt, Z_acmp_eqq1, Z_acmp_eqq2, Z_acmp_eqq3, Z_acmp_eqq4, Z_acmp_neq1, Z_acmp_neq2, Z_acmp_neq3, Z_acmp_neq4, Z_ifnull, Z_ifnullN, Z_ifnullq, Z_ifnonnull, Z_ifnonnullN, Z_ifnonnullq, Z_goto, Z_getI, Z_getZ, Z_getR, Z_putI, Z_putR, Z_putN, Z_putQ, Z_putZ, Z_new, Z_newarray, Z_anewarray, Z_alen, Z_cast, Z_objInit, Z_clone, Z_getClass, Z_copy, Z_max, Z_min, Y_iaload, Y_baload, Y_aaload, Y_iastore, Y_bastore, Y_aastore, Y_aastoreN, lt_0p, lt_1n, va_some, va_none, Option.toList_some, Option.toList_none, List.nil_append, List.cons_append, List.length_nil, List.length_cons, true_and, and_true, if_true, if_false, ite_true, ite_false, Nat.zero_le, Nat.not_lt_zero, Nat.reduceLeDiff, Nat.reduceEqDiff, Nat.reduceAdd, Nat.reduceMul, Nat.reduceSub, Nat.reduceLT, Nat.zero_add, not_true_eq_false, not_false_eq_true, true_or, or_true, false_or, or_false, Nat.add_zero, false_and, and_false, exists_eq_left', Option.some.injEq, k_X9_newOperation_0, sk_X9_newOperation_12, k_X9_newOperation_12, sk_X9_newOperation_26, k_X9_newOperation_26, sk_X9_newOperation_108, sk_X9_newOperation_143, k_X9_newOperation_143, sk_X9_newOperation_146, sk_X9_newOperation_167, k_X9_newOperation_167, sk_X9_newOperation_173, k_X9_newOperation_173, Q_X9_newOperation, C_X9_doOperation, C_X9_sendOperation, E_X9_newOperation, nI_add, pk_mul, ar_lt, ar_le, ar_eq, z_lt, z_le, z_gt, z_ge, z_eq, z_eq2, ix_nI, nI_clamp, ne_eq, hM.k0, hM.f1, hM.k1, hM.l1, hM.f2, hM.k2, hM.l2, hM.f3, hM.k3, hM.l3, hM.f4, hM.k4, hM.l4, hM.f5, hM.k5, hM.l5, hM.f6, hM.k6, hM.l6, hM.f7, hM.k7, hM.l7, hM.f8, hM.k8, hM.l8, hM.f9, hM.k9, hM.l9, hM.f10, hM.k10, hM.l10, hM.f11, hM.k11, hM.l11, hM.f12, hM.k12, hM.l12, hM.f13, hM.k13, hM.l13, hM.f14, hM.k14, hM.l14, hM.f15, hM.k15, hM.l15, hM.f16, hM.k16, hM.l16, hM.f17, hM.k17, hM.l17, hM.f18, hM.k18, hM.l18, hM.f19, hM.k19, hM.l19, hM.f20, hM.k20, hM.l20, hM.f21, hM.k21, hM.l21, hM.f22, hM.k22, hM.l22, hM.f23, hM.k23, hM.l23, e8, nb, e1, hfull]
      exact hP h Fr.rf hR
    · rw [if_pos hfull, if_neg hfull] at hP
      have hoo : 60 * r + sMk s r < 240 := by omega
      simp (disch := first | omega | assumption) only [Z_iconst, Z_bipush, Z_sipush, Z_ldc, Z_ldcM, Z_ldcw, Z_null, Z_getstatic, Z_iload0, Z_aload0, Z_aloadq0, Z_aloadn0, Z_istore0, Z_astore0, Z_astoreq0, Z_astoren0, Z_iinc0, Z_iload1, Z_aload1, Z_aloadq1, Z_aloadn1, Z_istore1, Z_astore1, Z_astoreq1, Z_astoren1, Z_iinc1, Z_iload2, Z_aload2, Z_aloadq2, Z_aloadn2, Z_istore2, Z_astore2, Z_astoreq2, Z_astoren2, Z_iinc2, Z_iload3, Z_aload3, Z_aloadq3, Z_aloadn3, Z_istore3, Z_astore3, Z_astoreq3, Z_astoren3, Z_iinc3, Z_iload4, Z_aload4, Z_aloadq4, Z_aloadn4, Z_istore4, Z_astore4, Z_astoreq4, Z_astoren4, Z_iinc4, Z_iload5, Z_aload5, Z_aloadq5, Z_aloadn5, Z_istore5, Z_astore5, Z_astoreq5, Z_astoren5, Z_iinc5, Z_iload6, Z_aload6, Z_aloadq6, Z_aloadn6, Z_istore6, Z_astore6, Z_astoreq6, Z_astoren6, Z_iinc6, Z_iload7, Z_aload7, Z_aloadq7, Z_aloadn7, Z_istore7, Z_astore7, Z_astoreq7, Z_astoren7, Z_iinc7, Z_iload8, Z_aload8, Z_aloadq8, Z_aloadn8, Z_istore8, Z_astore8, Z_astoreq8, Z_astoren8, Z_iinc8, Z_iload9, Z_aload9, Z_aloadq9, Z_aloadn9, Z_istore9, Z_astore9, Z_astoreq9, Z_astoren9, Z_iinc9, Z_iload10, Z_aload10, Z_aloadq10, Z_aloadn10, Z_istore10, Z_astore10, Z_astoreq10, Z_astoren10, Z_iinc10, Z_iload11, Z_aload11, Z_aloadq11, Z_aloadn11, Z_istore11, Z_astore11, Z_astoreq11, Z_astoren11, Z_iinc11, Z_iload12, Z_aload12, Z_aloadq12, Z_aloadn12, Z_istore12, Z_astore12, Z_astoreq12, Z_astoren12, Z_iinc12, Z_iadd, Z_isub, Z_imul, Z_iand, Z_ior, Z_ishl, Z_ishr, Z_iushr, Z_idiv, Z_irem, Z_dup, Z_dupx1, Z_dup2, Z_pop, Z_if_eq, Z_icmp_eq, Z_if_ne, Z_icmp_ne, Z_if_lt, Z_icmp_lt, Z_if_le, Z_icmp_le, Z_if_ge, Z_icmp_ge, Z_if_gt, Z_icmp_gt, Z_acmp_eqq1, Z_acmp_eqq2, Z_acmp_eqq3, Z_acmp_eqq4, Z_acmp_neq1, Z_acmp_neq2, Z_acmp_neq3, Z_acmp_neq4, Z_ifnull, Z_ifnullN, Z_ifnullq, Z_ifnonnull, Z_ifnonnullN, Z_ifnonnullq, Z_goto, Z_getI, Z_getZ, Z_getR, Z_putI, Z_putR, Z_putN, Z_putQ, Z_putZ, Z_new, Z_newarray, Z_anewarray, Z_alen, Z_cast, Z_objInit, Z_clone, Z_getClass, Z_copy, Z_max, Z_min, Y_iaload, Y_baload, Y_aaload, Y_iastore, Y_bastore, Y_aastore, Y_aastoreN, lt_0p, lt_1n, va_some, va_none, Option.toList_some, Option.toList_none, List.nil_append, List.cons_append, List.length_nil, List.length_cons, true_and, and_true, if_true, if_false, ite_true, ite_false, Nat.zero_le, Nat.not_lt_zero, Nat.reduceLeDiff, Nat.reduceEqDiff, Nat.reduceAdd, Nat.reduceMul, Nat.reduceSub, Nat.reduceLT, Nat.zero_add, not_true_eq_false, not_false_eq_true, true_or, or_true, false_or, or_false, Nat.add_zero, false_and, and_false, exists_eq_left', Option.some.injEq, k_X9_newOperation_0, sk_X9_newOperation_12, k_X9_newOperation_12, sk_X9_newOperation_26, k_X9_newOperation_26, sk_X9_newOperation_108, sk_X9_newOperation_143, k_X9_newOperation_143, sk_X9_newOperation_146, sk_X9_newOperation_167, k_X9_newOperation_167, sk_X9_newOperation_173, k_X9_newOperation_173, Q_X9_newOperation, C_X9_doOperation, C_X9_sendOperation, E_X9_newOperation, nI_add, pk_mul, ar_lt, ar_le, ar_eq, z_lt, z_le, z_gt, z_ge, z_eq, z_eq2, ix_nI, nI_clamp, ne_eq, hM.k0, hM.f1, hM.k1, hM.l1, hM.f2, hM.k2, hM.l2, hM.f3, hM.k3, hM.l3, hM.f4, hM.k4, hM.l4, hM.f5, hM.k5, hM.l5, hM.f6, hM.k6, hM.l6, hM.f7, hM.k7, hM.l7, hM.f8, hM.k8, hM.l8, hM.f9, hM.k9, hM.l9, hM.f10, hM.k10, hM.l10, hM.f11, hM.k11, hM.l11, hM.f12, hM.k12, hM.l12, hM.f13, hM.k13, hM.l13, hM.f14, hM.k14, hM.l14, hM.f15, hM.k15, hM.l15, hM.f16, hM.k16, hM.l16, hM.f17, hM.k17, hM.l17, hM.f18, hM.k18, hM.l18, hM.f19, hM.k19, hM.l19, hM.f20, hM.k20, hM.l20, hM.f21, hM.k21, hM.l21, hM.f22, hM.k22, hM.l22, hM.f23, hM.k23, hM.l23, kd_wfI, ln_wfI, fI_wfI, fR_wfI, aI_wfI, aR_wfI, gc_wfI, sz_wfI, sl_wfI, kd_wfR, ln_wfR, fI_wfR, fR_wfR, aI_wfR, aR_wfR, gc_wfR, sz_wfR, sl_wfR, kd_waI, ln_waI, fI_waI, fR_waI, aI_waI, aR_waI, gc_waI, sz_waI, sl_waI, kd_waR, ln_waR, fI_waR, fR_waR, aI_waR, aR_waR, gc_waR, sz_waR, sl_waR, kd_hnew, ln_hnew, fI_hnew, fR_hnew, aI_hnew, aR_hnew, gc_hnew, sz_hnew, sl_hnew, ac_eq, e8, nb, e1, hfull, e10]
      have m1 := rec_MR (r := r) (k := k) (t := t) (v := v) (b := b) hR
      have B1 := Bd_rec (k := k) (t := t) (v := v) (b := b) hB (by omega) hk ht hb hti
      generalize hh1 : waI (waI (waI (waI (waI (waI h (g + 1) r (nI (sMk s r + 1))) (g + 2) (60 * r + sMk s r) (nI k)) (g + 3) (60 * r + sMk s r) (nI t)) (g + 4) (60 * r + sMk s r) v) (g + 5) (60 * r + sMk s r) (bhI b)) (g + 6) (60 * r + sMk s r) (nI (sTi s r + 1)) = h1 at m1 ⊢
      have f1 : Fr g h h1 := by
        rw [← hh1]
        exact (((((Fr.rf.wa (k := 1) (by decide) (by decide)).wa (k := 2) (by decide) (by decide)).wa (k := 3) (by decide) (by decide)).wa (k := 4) (by decide) (by decide)).wa (k := 5) (by decide) (by decide)).wa (k := 6) (by decide) (by decide)
      have hdiv : (60 * r + sMk s r) / 60 = r := by omega
      have ho1 : sOw (rec_ s r k t v b) r ((60 * r + sMk s r) / 60) < 60 := by
        rw [hdiv]
        show sOw s r r < 60
        omega
      refine c_doOperation (f1.ml hM) m1 B1 hr hoo (hlen (by omega)) (fun h2 f2 m2 => ?_)
      have B2 := Bd_doo B1 hoo ho1 (hlen (by omega))
      generalize hs2 : doo (rec_ s r k t v b) r (60 * r + sMk s r) = s2 at m2 B2
      have hM2 := f2.ml (f1.ml hM)
      have hM := hM2
      have d0 := m2.c9 r 0 hr (by decide); have d1 := m2.c9 r 1 hr (by decide); have d2 := m2.c9 r 2 hr (by decide); have d3 := m2.c9 r 3 hr (by decide)
      simp only [Nat.add_zero] at d0
      simp (disch := first | omega | assumption) only [Z_iconst, Z_bipush, Z_sipush, Z_ldc, Z_ldcM, Z_ldcw, Z_null, Z_getstatic, Z_iload0, Z_aload0, Z_aloadq0, Z_aloadn0, Z_istore0, Z_astore0, Z_astoreq0, Z_astoren0, Z_iinc0, Z_iload1, Z_aload1, Z_aloadq1, Z_aloadn1, Z_istore1, Z_astore1, Z_astoreq1, Z_astoren1, Z_iinc1, Z_iload2, Z_aload2, Z_aloadq2, Z_aloadn2, Z_istore2, Z_astore2, Z_astoreq2, Z_astoren2, Z_iinc2, Z_iload3, Z_aload3, Z_aloadq3, Z_aloadn3, Z_istore3, Z_astore3, Z_astoreq3, Z_astoren3, Z_iinc3, Z_iload4, Z_aload4, Z_aloadq4, Z_aloadn4, Z_istore4, Z_astore4, Z_astoreq4, Z_astoren4, Z_iinc4, Z_iload5, Z_aload5, Z_aloadq5, Z_aloadn5, Z_istore5, Z_astore5, Z_astoreq5, Z_astoren5, Z_iinc5, Z_iload6, Z_aload6, Z_aloadq6, Z_aloadn6, Z_istore6, Z_astore6, Z_astoreq6, Z_astoren6, Z_iinc6, Z_iload7, Z_aload7, Z_aloadq7, Z_aloadn7, Z_istore7, Z_astore7, Z_astoreq7, Z_astoren7, Z_iinc7, Z_iload8, Z_aload8, Z_aloadq8, Z_aloadn8, Z_istore8, Z_astore8, Z_astoreq8, Z_astoren8, Z_iinc8, Z_iload9, Z_aload9, Z_aloadq9, Z_aloadn9, Z_istore9, Z_astore9, Z_astoreq9, Z_astoren9, Z_iinc9, Z_iload10, Z_aload10, Z_aloadq10, Z_aloadn10, Z_istore10, Z_astore10, Z_astoreq10, Z_astoren10, Z_iinc10, Z_iload11, Z_aload11, Z_aloadq11, Z_aloadn11, Z_istore11, Z_astore11, Z_astoreq11, Z_astoren11, Z_iinc11, Z_iload12, Z_aload12, Z_aloadq12, Z_aloadn12, Z_istore12, Z_astore12, Z_astoreq12, Z_astoren12, Z_iinc12, Z_iadd, Z_isub, Z_imul, Z_iand, Z_ior, Z_ishl, Z_ishr, Z_iushr, Z_idiv, Z_irem, Z_dup, Z_dupx1, Z_dup2, Z_pop, Z_if_eq, Z_icmp_eq, Z_if_ne, Z_icmp_ne, Z_if_lt, Z_icmp_lt, Z_if_le, Z_icmp_le, Z_if_ge, Z_icmp_ge, Z_if_gt, Z_icmp_gt, Z_acmp_eqq1, Z_acmp_eqq2, Z_acmp_eqq3, Z_acmp_eqq4, Z_acmp_neq1, Z_acmp_neq2, Z_acmp_neq3, Z_acmp_neq4, Z_ifnull, Z_ifnullN, Z_ifnullq, Z_ifnonnull, Z_ifnonnullN, Z_ifnonnullq, Z_goto, Z_getI, Z_getZ, Z_getR, Z_putI, Z_putR, Z_putN, Z_putQ, Z_putZ, Z_new, Z_newarray, Z_anewarray, Z_alen, Z_cast, Z_objInit, Z_clone, Z_getClass, Z_copy, Z_max, Z_min, Y_iaload, Y_baload, Y_aaload, Y_iastore, Y_bastore, Y_aastore, Y_aastoreN, lt_0p, lt_1n, va_some, va_none, Option.toList_some, Option.toList_none, List.nil_append, List.cons_append, List.length_nil, List.length_cons, true_and, and_true, if_true, if_false, ite_true, ite_false, Nat.zero_le, Nat.not_lt_zero, Nat.reduceLeDiff, Nat.reduceEqDiff, Nat.reduceAdd, Nat.reduceMul, Nat.reduceSub, Nat.reduceLT, Nat.zero_add, not_true_eq_false, not_false_eq_true, true_or, or_true, false_or, or_false, Nat.add_zero, false_and, and_false, exists_eq_left', Option.some.injEq, k_X9_newOperation_0, sk_X9_newOperation_12, k_X9_newOperation_12, sk_X9_newOperation_26, k_X9_newOperation_26, sk_X9_newOperation_108, sk_X9_newOperation_143, k_X9_newOperation_143, sk_X9_newOperation_146, sk_X9_newOperation_167, k_X9_newOperation_167, sk_X9_newOperation_173, k_X9_newOperation_173, Q_X9_newOperation, C_X9_doOperation, C_X9_sendOperation, nI_add, pk_mul, ar_lt, ar_le, ar_eq, z_lt, z_le, z_gt, z_ge, z_eq, z_eq2, ix_nI, nI_clamp, ne_eq]
      iterate 5 (rw [k_X9_newOperation_108]; simp (disch := first | omega | assumption) only [Z_iconst, Z_bipush, Z_sipush, Z_ldc, Z_ldcM, Z_ldcw, Z_null, Z_getstatic, Z_iload0, Z_aload0, Z_aloadq0, Z_aloadn0, Z_istore0, Z_astore0, Z_astoreq0, Z_astoren0, Z_iinc0, Z_iload1, Z_aload1, Z_aloadq1, Z_aloadn1, Z_istore1, Z_astore1, Z_astoreq1, Z_astoren1, Z_iinc1, Z_iload2, Z_aload2, Z_aloadq2, Z_aloadn2, Z_istore2, Z_astore2, Z_astoreq2, Z_astoren2, Z_iinc2, Z_iload3, Z_aload3, Z_aloadq3, Z_aloadn3, Z_istore3, Z_astore3, Z_astoreq3, Z_astoren3, Z_iinc3, Z_iload4, Z_aload4, Z_aloadq4, Z_aloadn4, Z_istore4, Z_astore4, Z_astoreq4, Z_astoren4, Z_iinc4, Z_iload5, Z_aload5, Z_aloadq5, Z_aloadn5, Z_istore5, Z_astore5, Z_astoreq5, Z_astoren5, Z_iinc5, Z_iload6, Z_aload6, Z_aloadq6, Z_aloadn6, Z_istore6, Z_astore6, Z_astoreq6, Z_astoren6, Z_iinc6, Z_iload7, Z_aload7, Z_aloadq7, Z_aloadn7, Z_istore7, Z_astore7, Z_astoreq7, Z_astoren7, Z_iinc7, Z_iload8, Z_aload8, Z_aloadq8, Z_aloadn8, Z_istore8, Z_astore8, Z_astoreq8, Z_astoren8, Z_iinc8, Z_iload9, Z_aload9, Z_aloadq9, Z_aloadn9, Z_istore9, Z_astore9, Z_astoreq9, Z_astoren9, Z_iinc9, Z_iload10, Z_aload10, Z_aloadq10, Z_aloadn10, Z_istore10, Z_astore10, Z_astoreq10, Z_astoren10, Z_iinc10, Z_iload11, Z_aload11, Z_aloadq11, Z_aloadn11, Z_istore11, Z_astore11, Z_astoreq11, Z_astoren11, Z_iinc11, Z_iload12, Z_aload12, Z_aloadq12, Z_aloadn12, Z_istore12, Z_astore12, Z_astoreq12, Z_astoren12, Z_iinc12, Z_iadd, Z_isub, Z_imul, Z_iand, Z_ior, Z_ishl, Z_ishr, Z_iushr, Z_idiv, Z_irem, Z_dup, Z_dupx1, Z_dup2, Z_pop, Z_if_eq, Z_icmp_eq, Z_if_ne, Z_icmp_ne, Z_if_lt, Z_icmp_lt, Z_if_le, Z_icmp_le, Z_if_ge, Z_icmp_ge, Z_if_gt, Z_icmp_gt, Z_acmp_eqq1, Z_acmp_eqq2, Z_acmp_eqq3, Z_acmp_eqq4, Z_acmp_neq1, Z_acmp_neq2, Z_acmp_neq3, Z_acmp_neq4, Z_ifnull, Z_ifnullN, Z_ifnullq, Z_ifnonnull, Z_ifnonnullN, Z_ifnonnullq, Z_goto, Z_getI, Z_getZ, Z_getR, Z_putI, Z_putR, Z_putN, Z_putQ, Z_putZ, Z_new, Z_newarray, Z_anewarray, Z_alen, Z_cast, Z_objInit, Z_clone, Z_getClass, Z_copy, Z_max, Z_min, Y_iaload, Y_baload, Y_aaload, Y_iastore, Y_bastore, Y_aastore, Y_aastoreN, lt_0p, lt_1n, va_some, va_none, Option.toList_some, Option.toList_none, List.nil_append, List.cons_append, List.length_nil, List.length_cons, true_and, and_true, if_true, if_false, ite_true, ite_false, Nat.zero_le, Nat.not_lt_zero, Nat.reduceLeDiff, Nat.reduceEqDiff, Nat.reduceAdd, Nat.reduceMul, Nat.reduceSub, Nat.reduceLT, Nat.zero_add, not_true_eq_false, not_false_eq_true, true_or, or_true, false_or, or_false, Nat.add_zero, false_and, and_false, exists_eq_left', Option.some.injEq, k_X9_newOperation_0, sk_X9_newOperation_12, k_X9_newOperation_12, sk_X9_newOperation_26, k_X9_newOperation_26, sk_X9_newOperation_108, sk_X9_newOperation_143, k_X9_newOperation_143, sk_X9_newOperation_146, sk_X9_newOperation_167, k_X9_newOperation_167, sk_X9_newOperation_173, k_X9_newOperation_173, Q_X9_newOperation, C_X9_doOperation, C_X9_sendOperation, nI_add, pk_mul, ar_lt, ar_le, ar_eq, z_lt, z_le, z_gt, z_ge, z_eq, z_eq2, ix_nI, nI_clamp, ne_eq, hM.k0, hM.f1, hM.k1, hM.l1, hM.f2, hM.k2, hM.l2, hM.f3, hM.k3, hM.l3, hM.f4, hM.k4, hM.l4, hM.f5, hM.k5, hM.l5, hM.f6, hM.k6, hM.l6, hM.f7, hM.k7, hM.l7, hM.f8, hM.k8, hM.l8, hM.f9, hM.k9, hM.l9, hM.f10, hM.k10, hM.l10, hM.f11, hM.k11, hM.l11, hM.f12, hM.k12, hM.l12, hM.f13, hM.k13, hM.l13, hM.f14, hM.k14, hM.l14, hM.f15, hM.k15, hM.l15, hM.f16, hM.k16, hM.l16, hM.f17, hM.k17, hM.l17, hM.f18, hM.k18, hM.l18, hM.f19, hM.k19, hM.l19, hM.f20, hM.k20, hM.l20, hM.f21, hM.k21, hM.l21, hM.f22, hM.k22, hM.l22, hM.f23, hM.k23, hM.l23, kd_wfI, ln_wfI, fI_wfI, fR_wfI, aI_wfI, aR_wfI, gc_wfI, sz_wfI, sl_wfI, kd_wfR, ln_wfR, fI_wfR, fR_wfR, aI_wfR, aR_wfR, gc_wfR, sz_wfR, sl_wfR, kd_waI, ln_waI, fI_waI, fR_waI, aI_waI, aR_waI, gc_waI, sz_waI, sl_waI, kd_waR, ln_waR, fI_waR, fR_waR, aI_waR, aR_waR, gc_waR, sz_waR, sl_waR, kd_hnew, ln_hnew, fI_hnew, fR_hnew, aI_hnew, aR_hnew, gc_hnew, sz_hnew, sl_hnew, ac_eq, d0, d1, d2, d3])
      have m3 := clk_MR (r := r) m2 hoo
      have f3 : Fr g h2 (waI (waI (waI (waI h2 (g + 7) (4 * (60 * r + sMk s r)) (nI (sOw s2 r 0))) (g + 7) (4 * (60 * r + sMk s r) + 1) (nI (sOw s2 r 1))) (g + 7) (4 * (60 * r + sMk s r) + 2) (nI (sOw s2 r 2))) (g + 7) (4 * (60 * r + sMk s r) + 3) (nI (sOw s2 r 3))) := (((Fr.rf.wa (k := 7) (by decide) (by decide)).wa (k := 7) (by decide) (by decide)).wa (k := 7) (by decide) (by decide)).wa (k := 7) (by decide) (by decide)
      refine l_new hr hoo 4 0 _ (clk_ s2 r (60 * r + sMk s r)) (f3.ml hM) m3 (Bd_clk B2 hr) rfl (fun h4 f4 m4 => ?_)
      have emk : sMk (clk_ s2 r (60 * r + sMk s r)) r = sMk s r + 1 := by
        rw [← hs2]
        show fu (sMk s) r (sMk s r + 1) r = _
        exact if_pos rfl
      rw [emk]
      refine hP h4 (((f1.tr f2).tr f3).tr f4) ?_
      unfold nwo
      rw [hs2]
      exact m4
end
section
/-! messages of the reference: one is moved, one is dropped -/
def mvh (g : Nat) (h : Hp) (a b : Nat) : Hp := waI (waI (waI (waI (waI (waI h (g + 18) b (aI h (g + 18) a)) (g + 19) b (aI h (g + 19) a)) (g + 20) (4 * b) (aI h (g + 20) (4 * a))) (g + 20) (4 * b + 1) (aI h (g + 20) (4 * a + 1))) (g + 20) (4 * b + 2) (aI h (g + 20) (4 * a + 2))) (g + 20) (4 * b + 3) (aI h (g + 20) (4 * a + 3))
set_option maxHeartbeats 4000000 in
theorem e_move {g a b : Nat} {h : Hp} {P : Option Value → Hp → Prop} (hM : ML g h) (ha : a < 480) (hb : b < 480) (hab : a ≠ b) : Ev M_X9_moveMessage [.ref g, .int (nI a), .int (nI b)] h P ↔ P none (mvh g h a b) := by
  have n1 : ¬ 4 * a + 1 = 4 * b := by omega
  have n2 : ¬ 4 * a + 2 = 4 * b := by omega
  have n3 : ¬ 4 * a + 3 = 4 * b := by omega
  have n4 : ¬ 4 * a + 2 = 4 * b + 1 := by omega
  have n5 : ¬ 4 * a + 3 = 4 * b + 1 := by omega
  have n6 : ¬ 4 * a + 3 = 4 * b + 2 := by omega
  simp (disch := first | omega | assumption) only [Z_iconst, Z_bipush, Z_sipush, Z_ldc, Z_ldcM, Z_ldcw, Z_null, Z_getstatic, Z_iload0, Z_aload0, Z_aloadq0, Z_aloadn0, Z_istore0, Z_astore0, Z_astoreq0, Z_astoren0, Z_iinc0, Z_iload1, Z_aload1, Z_aloadq1, Z_aloadn1, Z_istore1, Z_astore1, Z_astoreq1, Z_astoren1, Z_iinc1, Z_iload2, Z_aload2, Z_aloadq2, Z_aloadn2, Z_istore2, Z_astore2, Z_astoreq2, Z_astoren2, Z_iinc2, Z_iload3, Z_aload3, Z_aloadq3, Z_aloadn3, Z_istore3, Z_astore3, Z_astoreq3, Z_astoren3, Z_iinc3, Z_iload4, Z_aload4, Z_aloadq4, Z_aloadn4, Z_istore4, Z_astore4, Z_astoreq4, Z_astoren4, Z_iinc4, Z_iload5, Z_aload5, Z_aloadq5, Z_aloadn5, Z_istore5, Z_astore5, Z_astoreq5, Z_astoren5, Z_iinc5, Z_iload6, Z_aload6, Z_aloadq6, Z_aloadn6, Z_istore6, Z_astore6, Z_astoreq6, Z_astoren6, Z_iinc6, Z_iload7, Z_aload7, Z_aloadq7, Z_aloadn7, Z_istore7, Z_astore7, Z_astoreq7, Z_astoren7, Z_iinc7, Z_iload8, Z_aload8, Z_aloadq8, Z_aloadn8, Z_istore8, Z_astore8, Z_astoreq8, Z_astoren8, Z_iinc8, Z_iload9, Z_aload9, Z_aloadq9, Z_aloadn9, Z_istore9, Z_astore9, Z_astoreq9, Z_astoren9, Z_iinc9, Z_iload10, Z_aload10, Z_aloadq10, Z_aloadn10, Z_istore10, Z_astore10, Z_astoreq10, Z_astoren10, Z_iinc10, Z_iload11, Z_aload11, Z_aloadq11, Z_aloadn11, Z_istore11, Z_astore11, Z_astoreq11, Z_astoren11, Z_iinc11, Z_iload12, Z_aload12, Z_aloadq12, Z_aloadn12, Z_istore12, Z_astore12, Z_astoreq12, Z_astoren12, Z_iinc12, Z_iadd, Z_isub, Z_imul, Z_iand, Z_ior, Z_ishl, Z_ishr, Z_iushr, Z_idiv, Z_irem, Z_dup, Z_dupx1, Z_dup2, Z_pop, Z_if_eq, Z_icmp_eq, Z_if_ne, Z_icmp_ne, Z_if_lt, Z_icmp_lt, Z_if_le, Z_icmp_le, Z_if_ge, Z_icmp_ge, Z_if_gt, Z_icmp_gt, Z_acmp_eqq1, Z_acmp_eqq2, Z_acmp_eqq3, Z_acmp_eqq4, Z_acmp_neq1, Z_acmp_neq2, Z_acmp_neq3, Z_acmp_neq4, Z_ifnull, Z_ifnullN, Z_ifnullq, Z_ifnonnull, Z_ifnonnullN, Z_ifnonnullq, Z_goto, Z_getI, Z_getZ, Z_getR, Z_putI, Z_putR, Z_putN, Z_putQ, Z_putZ, Z_new, Z_newarray, Z_anewarray, Z_alen, Z_cast, Z_objInit, Z_clone, Z_getClass, Z_copy, Z_max, Z_min, Y_iaload, Y_baload, Y_aaload, Y_iastore, Y_bastore, Y_aastore, Y_aastoreN, lt_0p, lt_1n, va_some, va_none, Option.toList_some, Option.toList_none, List.nil_append, List.cons_append, List.length_nil, List.length_cons, true_and, and_true, if_true, if_false, ite_true, ite_false, Nat.zero_le, Nat.not_lt_zero, Nat.reduceLeDiff, Nat.reduceEqDiff, Nat.reduceAdd, Nat.reduceMul, Nat.reduceSub, Nat.reduceLT, Nat.zero_add, not_true_eq_false, not_false_eq_true, true_or, or_true, false_or, or_false, Nat.add_zero, false_and, and_false, exists_eq_left', Option.some.injEq, k_X9_moveMessage_0, sk_X9_moveMessage_26, sk_X9_moveMessage_57, k_X9_moveMessage_57, Q_X9_moveMessage, E_X9_moveMessage, nI_add, pk_mul, ar_lt, ar_le, ar_eq, z_lt, z_le, z_gt, z_ge, z_eq, z_eq2, ix_nI, nI_clamp, ne_eq, hM.k0, hM.f1, hM.k1, hM.l1, hM.f2, hM.k2, hM.l2, hM.f3, hM.k3, hM.l3, hM.f4, hM.k4, hM.l4, hM.f5, hM.k5, hM.l5, hM.f6, hM.k6, hM.l6, hM.f7, hM.k7, hM.l7, hM.f8, hM.k8, hM.l8, hM.f9, hM.k9, hM.l9, hM.f10, hM.k10, hM.l10, hM.f11, hM.k11, hM.l11, hM.f12, hM.k12, hM.l12, hM.f13, hM.k13, hM.l13, hM.f14, hM.k14, hM.l14, hM.f15, hM.k15, hM.l15, hM.f16, hM.k16, hM.l16, hM.f17, hM.k17, hM.l17, hM.f18, hM.k18, hM.l18, hM.f19, hM.k19, hM.l19, hM.f20, hM.k20, hM.l20, hM.f21, hM.k21, hM.l21, hM.f22, hM.k22, hM.l22, hM.f23, hM.k23, hM.l23, kd_wfI, ln_wfI, fI_wfI, fR_wfI, aI_wfI, aR_wfI, gc_wfI, sz_wfI, sl_wfI, kd_wfR, ln_wfR, fI_wfR, fR_wfR, aI_wfR, aR_wfR, gc_wfR, sz_wfR, sl_wfR, kd_waI, ln_waI, fI_waI, fR_waI, aI_waI, aR_waI, gc_waI, sz_waI, sl_waI, kd_waR, ln_waR, fI_waR, fR_waR, aI_waR, aR_waR, gc_waR, sz_waR, sl_waR, kd_hnew, ln_hnew, fI_hnew, fR_hnew, aI_hnew, aR_hnew, gc_hnew, sz_hnew, sl_hnew, ac_eq]
  iterate 5 (rw [k_X9_moveMessage_26]; simp (disch := first | omega | assumption) only [Z_iconst, Z_bipush, Z_sipush, Z_ldc, Z_ldcM, Z_ldcw, Z_null, Z_getstatic, Z_iload0, Z_aload0, Z_aloadq0, Z_aloadn0, Z_istore0, Z_astore0, Z_astoreq0, Z_astoren0, Z_iinc0, Z_iload1, Z_aload1, Z_aloadq1, Z_aloadn1, Z_istore1, Z_astore1, Z_astoreq1, Z_astoren1, Z_iinc1, Z_iload2, Z_aload2, Z_aloadq2, Z_aloadn2, Z_istore2, Z_astore2, Z_astoreq2, Z_astoren2, Z_iinc2, Z_iload3, Z_aload3, Z_aloadq3, Z_aloadn3, Z_istore3, Z_astore3, Z_astoreq3, Z_astoren3, Z_iinc3, Z_iload4, Z_aload4, Z_aloadq4, Z_aloadn4, Z_istore4, Z_astore4, Z_astoreq4, Z_astoren4, Z_iinc4, Z_iload5, Z_aload5, Z_aloadq5, Z_aloadn5, Z_istore5, Z_astore5, Z_astoreq5, Z_astoren5, Z_iinc5, Z_iload6, Z_aload6, Z_aloadq6, Z_aloadn6, Z_istore6, Z_astore6, Z_astoreq6, Z_astoren6, Z_iinc6, Z_iload7, Z_aload7, Z_aloadq7, Z_aloadn7, Z_istore7, Z_astore7, Z_astoreq7, Z_astoren7, Z_iinc7, Z_iload8, Z_aload8, Z_aloadq8, Z_aloadn8, Z_istore8, Z_astore8, Z_astoreq8, Z_astoren8, Z_iinc8, Z_iload9, Z_aload9, Z_aloadq9, Z_aloadn9, Z_istore9, Z_astore9, Z_astoreq9, Z_astoren9, Z_iinc9, Z_iload10, Z_aload10, Z_aloadq10, Z_aloadn10, Z_istore10, Z_astore10, Z_astoreq10, Z_astoren10, Z_iinc10, Z_iload11, Z_aload11, Z_aloadq11, Z_aloadn11, Z_istore11, Z_astore11, Z_astoreq11, Z_astoren11, Z_iinc11, Z_iload12, Z_aload12, Z_aloadq12, Z_aloadn12, Z_istore12, Z_astore12, Z_astoreq12, Z_astoren12, Z_iinc12, Z_iadd, Z_isub, Z_imul, Z_iand, Z_ior, Z_ishl, Z_ishr, Z_iushr, Z_idiv, Z_irem, Z_dup, Z_dupx1, Z_dup2, Z_pop, Z_if_eq, Z_icmp_eq, Z_if_ne, Z_icmp_ne, Z_if_lt, Z_icmp_lt, Z_if_le, Z_icmp_le, Z_if_ge, Z_icmp_ge, Z_if_gt, Z_icmp_gt, Z_acmp_eqq1, Z_acmp_eqq2, Z_acmp_eqq3, Z_acmp_eqq4, Z_acmp_neq1, Z_acmp_neq2, Z_acmp_neq3, Z_acmp_neq4, Z_ifnull, Z_ifnullN, Z_ifnullq, Z_ifnonnull, Z_ifnonnullN, Z_ifnonnullq, Z_goto, Z_getI, Z_getZ, Z_getR, Z_putI, Z_putR, Z_putN, Z_putQ, Z_putZ, Z_new, Z_newarray, Z_anewarray, Z_alen, Z_cast, Z_objInit, Z_clone, Z_getClass, Z_copy, Z_max, Z_min, Y_iaload, Y_baload, Y_aaload, Y_iastore, Y_bastore, Y_aastore, Y_aastoreN, lt_0p, lt_1n, va_some, va_none, Option.toList_some, Option.toList_none, List.nil_append, List.cons_append, List.length_nil, List.length_cons, true_and, and_true, if_true, if_false, ite_true, ite_false, Nat.zero_le, Nat.not_lt_zero, Nat.reduceLeDiff, Nat.reduceEqDiff, Nat.reduceAdd, Nat.reduceMul, Nat.reduceSub, Nat.reduceLT, Nat.zero_add, not_true_eq_false, not_false_eq_true, true_or, or_true, false_or, or_false, Nat.add_zero, false_and, and_false, exists_eq_left', Option.some.injEq, k_X9_moveMessage_0, sk_X9_moveMessage_26, sk_X9_moveMessage_57, k_X9_moveMessage_57, Q_X9_moveMessage, nI_add, pk_mul, ar_lt, ar_le, ar_eq, z_lt, z_le, z_gt, z_ge, z_eq, z_eq2, ix_nI, nI_clamp, ne_eq, hM.k0, hM.f1, hM.k1, hM.l1, hM.f2, hM.k2, hM.l2, hM.f3, hM.k3, hM.l3, hM.f4, hM.k4, hM.l4, hM.f5, hM.k5, hM.l5, hM.f6, hM.k6, hM.l6, hM.f7, hM.k7, hM.l7, hM.f8, hM.k8, hM.l8, hM.f9, hM.k9, hM.l9, hM.f10, hM.k10, hM.l10, hM.f11, hM.k11, hM.l11, hM.f12, hM.k12, hM.l12, hM.f13, hM.k13, hM.l13, hM.f14, hM.k14, hM.l14, hM.f15, hM.k15, hM.l15, hM.f16, hM.k16, hM.l16, hM.f17, hM.k17, hM.l17, hM.f18, hM.k18, hM.l18, hM.f19, hM.k19, hM.l19, hM.f20, hM.k20, hM.l20, hM.f21, hM.k21, hM.l21, hM.f22, hM.k22, hM.l22, hM.f23, hM.k23, hM.l23, kd_wfI, ln_wfI, fI_wfI, fR_wfI, aI_wfI, aR_wfI, gc_wfI, sz_wfI, sl_wfI, kd_wfR, ln_wfR, fI_wfR, fR_wfR, aI_wfR, aR_wfR, gc_wfR, sz_wfR, sl_wfR, kd_waI, ln_waI, fI_waI, fR_waI, aI_waI, aR_waI, gc_waI, sz_waI, sl_waI, kd_waR, ln_waR, fI_waR, fR_waR, aI_waR, aR_waR, gc_waR, sz_waR, sl_waR, kd_hnew, ln_hnew, fI_hnew, fR_hnew, aI_hnew, aR_hnew, gc_hnew, sz_hnew, sl_hnew, ac_eq, n1, n2, n3, n4, n5, n6])
  exact Iff.rfl
/-- of way w the messages behind place k stand one place lower, up to place i -/
def Sh (g : Nat) (h0 h : Hp) (w k i : Nat) : Prop := Fr g h0 h ∧ (∀ x, aI h (g + 18) x = if 30 * w + k ≤ x ∧ x < 30 * w + i then aI h0 (g + 18) (x + 1) else aI h0 (g + 18) x) ∧ (∀ x, aI h (g + 19) x = if 30 * w + k ≤ x ∧ x < 30 * w + i then aI h0 (g + 19) (x + 1) else aI h0 (g + 19) x) ∧ (∀ x, aI h (g + 20) x = if 4 * (30 * w + k) ≤ x ∧ x < 4 * (30 * w + i) then aI h0 (g + 20) (x + 4) else aI h0 (g + 20) x) ∧ (∀ q, q ≠ g + 18 → q ≠ g + 19 → q ≠ g + 20 → aI h q = aI h0 q)
theorem Sh.step {g w k i : Nat} {h0 h : Hp} (H : Sh g h0 h w k i) (hki : k ≤ i) : Sh g h0 (mvh g h (30 * w + i + 1) (30 * w + i)) w k (i + 1) := by
  obtain ⟨f, s1, s2, s3, s4⟩ := H
  refine ⟨?_, ?_, ?_, ?_, ?_⟩
  · unfold mvh
    exact (((((f.wa (k := 18) (by decide) (by decide)).wa (k := 19) (by decide) (by decide)).wa (k := 20) (by decide) (by decide)).wa (k := 20) (by decide) (by decide)).wa (k := 20) (by decide) (by decide)).wa (k := 20) (by decide) (by decide)
  · intro x
    simp only [mvh, aI_waI, ac_eq, Nat.reduceEqDiff, false_and, if_false, true_and]
    by_cases hx : x = 30 * w + i
    · rw [if_pos hx, if_pos (by omega), s1, if_neg (by omega), hx]
    · rw [if_neg hx, s1]
      by_cases hc : 30 * w + k ≤ x ∧ x < 30 * w + i
      · rw [if_pos hc, if_pos (by omega)]
      · rw [if_neg hc, if_neg (by omega)]
  · intro x
    simp only [mvh, aI_waI, ac_eq, Nat.reduceEqDiff, false_and, if_false, true_and]
    by_cases hx : x = 30 * w + i
    · rw [if_pos hx, if_pos (by omega), s2, if_neg (by omega), hx]
    · rw [if_neg hx, s2]
      by_cases hc : 30 * w + k ≤ x ∧ x < 30 * w + i
      · rw [if_pos hc, if_pos (by omega)]
      · rw [if_neg hc, if_neg (by omega)]
  · intro x
    simp only [mvh, aI_waI, ac_eq, Nat.reduceEqDiff, false_and, if_false, true_and]
    by_cases x3 : x = 4 * (30 * w + i) + 3
    · rw [if_pos x3, if_pos (by omega), s3, if_neg (by omega)]
      congr 1
      omega
    · rw [if_neg x3]
      by_cases x2 : x = 4 * (30 * w + i) + 2
      · rw [if_pos x2, if_pos (by omega), s3, if_neg (by omega)]
        congr 1
        omega
      · rw [if_neg x2]
        by_cases x1 : x = 4 * (30 * w + i) + 1
        · rw [if_pos x1, if_pos (by omega), s3, if_neg (by omega)]
          congr 1
          omega
        · rw [if_neg x1]
          by_cases x0 : x = 4 * (30 * w + i)
          · rw [if_pos x0, if_pos (by omega), s3, if_neg (by omega)]
            congr 1
            omega
          · rw [if_neg x0, s3]
            by_cases hc : 4 * (30 * w + k) ≤ x ∧ x < 4 * (30 * w + i)
            · rw [if_pos hc, if_pos (by omega)]
            · rw [if_neg hc, if_neg (by omega)]
  · intro q h1 h2 h3
    rw [← s4 q h1 h2 h3]
    funext x
    simp only [mvh, aI_waI, h1, h2, h3, false_and, if_false]
theorem l_drop {g w n k : Nat} {h0 : Hp} {k2 : Option Value} {P : Option Value → Hp → Prop} (hM0 : ML g h0) (hw : w < 16) (hn : n < 30) (e17 : aI h0 (g + 17) w = nI n) (hP : ∀ h', Sh g h0 h' w k n → P none h') : ∀ (d i : Nat) (h : Hp), i + d = n → k ≤ i → Sh g h0 h w k i → Z M_X9_drop k_X9_drop_12 [some (.ref g), some (.int (nI w)), k2, some (.int (nI i))] [] h P := by
  intro d
  induction d with
  | zero =>
    intro i h hi hki H
    obtain rfl : i = n := by omega
    have hM := H.1.ml hM0
    have e : aI h (g + 17) w = nI i := by rw [H.2.2.2.2 (g + 17) (by omega) (by omega) (by omega)]; exact e17
    rw [k_X9_drop_12]
    simp (disch := first | omega | assumption) only [Z_iconst, Z_bipush, Z_sipush, Z_ldc, Z_ldcM, Z_ldcw, Z_null, Z_getstatic, Z_iload0, Z_aload0, Z_aloadq0, Z_aloadn0, Z_istore0, Z_astore0, Z_astoreq0, Z_astoren0, Z_iinc0, Z_iload1, Z_aload1, Z_aloadq1, Z_aloadn1, Z_istore1, Z_astore1, Z_astoreq1, Z_astoren1, Z_iinc1, Z_iload2, Z_aload2, Z_aloadq2, Z_aloadn2, Z_istore2, Z_astore2, Z_astoreq2, Z_astoren2, Z_iinc2, Z_iload3, Z_aload3, Z_aloadq3, Z_aloadn3, Z_istore3, Z_astore3, Z_astoreq3, Z_astoren3, Z_iinc3, Z_iload4, Z_aload4, Z_aloadq4, Z_aloadn4, Z_istore4, Z_astore4, Z_astoreq4, Z_astoren4, Z_iinc4, Z_iload5, Z_aload5, Z_aloadq5, Z_aloadn5, Z_istore5, Z_astore5, Z_astoreq5, Z_astoren5, Z_iinc5, Z_iload6, Z_aload6, Z_aloadq6, Z_aloadn6, Z_istore6, Z_astore6, Z_astoreq6, Z_astoren6, Z_iinc6, Z_iload7, Z_aload7, Z_aloadq7, Z_aloadn7, Z_istore7, Z_astore7, Z_astoreq7, Z_astoren7, Z_iinc7, Z_iload8, Z_aload8, Z_aloadq8, Z_aloadn8, Z_istore8, Z_astore8, Z_astoreq8, Z_astoren8, Z_iinc8, Z_iload9, Z_aload9, Z_aloadq9, Z_aloadn9, Z_istore9, Z_astore9, Z_astoreq9, Z_astoren9, Z_iinc9, Z_iload10, Z_aload10, Z_aloadq10, Z_aloadn10, Z_istore10, Z_astore10, Z_astoreq10, Z_astoren10, Z_iinc10, Z_iload11, Z_aload11, Z_aloadq11, Z_aloadn11, Z_istore11, Z_astore11, Z_astoreq11, Z_astoren11, Z_iinc11, Z_iload12, Z_aload12, Z_aloadq12, Z_aloadn12, Z_istore12, Z_astore12, Z_astoreq12, Z_astoren12, Z_iinc12, Z_iadd, Z_isub, Z_imul, Z_iand, Z_ior, Z_ishl, Z_ishr, Z_iushr, Z_idiv, Z_irem, Z_dup, Z_dupx1, Z_dup2, Z_pop, Z_if_eq, Z_icmp_eq, Z_if_ne, Z_icmp_ne, Z_if_lt, Z_icmp_lt, Z_if_le, Z_icmp_le, Z_if_ge, Z_icmp_ge, Z_if_gt, Z_icmp_gt, Z_acmp_eqq1, Z_acmp_eqq2, Z_acmp_eqq3, Z_acmp_eqq4, Z_acmp_neq1, Z_acmp_neq2, Z_acmp_neq3, Z_acmp_neq4, Z_ifnull, Z_ifnullN, Z_ifnullq, Z_ifnonnull, Z_ifnonnullN, Z_ifnonnullq, Z_goto, Z_getI, Z_getZ, Z_getR, Z_putI, Z_putR, Z_putN, Z_putQ, Z_putZ, Z_new, Z_newarray, Z_anewarray, Z_alen, Z_cast, Z_objInit, Z_clone, Z_getClass, Z_copy, Z_max, Z_min, Y_iaload, Y_baload, Y_aaload, Y_iastore, Y_bastore, Y_aastore, Y_aastoreN, lt_0p, lt_1n, va_some, va_none, Option.toList_some, Option.toList_none, List.nil_append, List.cons_append, List.length_nil, List.length_cons, true_and, and_true, if_true, if_false, ite_true, ite_false, Nat.zero_le, Nat.not_lt_zero, Nat.reduceLeDiff, Nat.reduceEqDiff, Nat.reduceAdd, Nat.reduceMul, Nat.reduceSub, Nat.reduceLT, Nat.zero_add, not_true_eq_false, not_false_eq_true, true_or, or_true, false_or, or_false, Nat.add_zero, false_and, and_false, exists_eq_left', Option.some.injEq, k_X9_drop_0, sk_X9_drop_12, sk_X9_drop_46, k_X9_drop_46, Q_X9_drop, C_X9_moveMessage, nI_add, pk_mul, ar_lt, ar_le, ar_eq, z_lt, z_le, z_gt, z_ge, z_eq, z_eq2, ix_nI, nI_clamp, ne_eq, hM.k0, hM.f1, hM.k1, hM.l1, hM.f2, hM.k2, hM.l2, hM.f3, hM.k3, hM.l3, hM.f4, hM.k4, hM.l4, hM.f5, hM.k5, hM.l5, hM.f6, hM.k6, hM.l6, hM.f7, hM.k7, hM.l7, hM.f8, hM.k8, hM.l8, hM.f9, hM.k9, hM.l9, hM.f10, hM.k10, hM.l10, hM.f11, hM.k11, hM.l11, hM.f12, hM.k12, hM.l12, hM.f13, hM.k13, hM.l13, hM.f14, hM.k14, hM.l14, hM.f15, hM.k15, hM.l15, hM.f16, hM.k16, hM.l16, hM.f17, hM.k17, hM.l17, hM.f18, hM.k18, hM.l18, hM.f19, hM.k19, hM.l19, hM.f20, hM.k20, hM.l20, hM.f21, hM.k21, hM.l21, hM.f22, hM.k22, hM.l22, hM.f23, hM.k23, hM.l23, e, Nat.le_refl]
    exact hP h H
  | succ d ih =>
    intro i h hi hki H
    have hM := H.1.ml hM0
    have e : aI h (g + 17) w = nI n := by rw [H.2.2.2.2 (g + 17) (by omega) (by omega) (by omega)]; exact e17
    rw [k_X9_drop_12]
    simp (disch := first | omega | assumption) only [Z_iconst, Z_bipush, Z_sipush, Z_ldc, Z_ldcM, Z_ldcw, Z_null, Z_getstatic, Z_iload0, Z_aload0, Z_aloadq0, Z_aloadn0, Z_istore0, Z_astore0, Z_astoreq0, Z_astoren0, Z_iinc0, Z_iload1, Z_aload1, Z_aloadq1, Z_aloadn1, Z_istore1, Z_astore1, Z_astoreq1, Z_astoren1, Z_iinc1, Z_iload2, Z_aload2, Z_aloadq2, Z_aloadn2, Z_istore2, Z_astore2, Z_astoreq2, Z_astoren2, Z_iinc2, Z_iload3, Z_aload3, Z_aloadq3, Z_aloadn3, Z_istore3, Z_astore3, Z_astoreq3, Z_astoren3, Z_iinc3, Z_iload4, Z_aload4, Z_aloadq4, Z_aloadn4, Z_istore4, Z_astore4, Z_astoreq4, Z_astoren4, Z_iinc4, Z_iload5, Z_aload5, Z_aloadq5, Z_aloadn5, Z_istore5, Z_astore5, Z_astoreq5, Z_astoren5, Z_iinc5, Z_iload6, Z_aload6, Z_aloadq6, Z_aloadn6, Z_istore6, Z_astore6, Z_astoreq6, Z_astoren6, Z_iinc6, Z_iload7, Z_aload7, Z_aloadq7, Z_aloadn7, Z_istore7, Z_astore7, Z_astoreq7, Z_astoren7, Z_iinc7, Z_iload8, Z_aload8, Z_aloadq8, Z_aloadn8, Z_istore8, Z_astore8, Z_astoreq8, Z_astoren8, Z_iinc8, Z_iload9, Z_aload9, Z_aloadq9, Z_aloadn9, Z_istore9, Z_astore9, Z_astoreq9, Z_astoren9, Z_iinc9, Z_iload10, Z_aload10, Z_aloadq10, Z_aloadn10, Z_istore10, Z_astore10, Z_astoreq10, Z_astoren10, Z_iinc10, Z_iload11, Z_aload11, Z_aloadq11, Z_aloadn11, Z_istore11, Z_astore11, Z_astoreq11, Z_astoren11, Z_iinc11, Z_iload12, Z_aload12, Z_aloadq12, Z_aloadn12, Z_istore12, Z_astore12, Z_astoreq12, Z_astoren12, Z_iinc12, Z_iadd, Z_isub, Z_imul, Z_iand, Z_ior, Z_ishl, Z_ishr, Z_iushr, Z_idiv, Z_irem, Z_dup, Z_dupx1, Z_dup2, Z_pop, Z_if_eq, Z_icmp_eq, Z_if_ne, Z_icmp_ne, Z_if_lt, Z_icmp_lt, Z_if_le, Z_icmp_le, Z_if_ge, Z_icmp_ge, Z_if_gt, Z_icmp_gt, Z_acmp_eqq1, Z_acmp_eqq2, Z_acmp_eqq3, Z_acmp_eqq4, Z_acmp_neq1, Z_acmp_neq2, Z_acmp_neq3, Z_acmp_neq4, Z_ifnull, Z_ifnullN, Z_ifnullq, Z_ifnonnull, Z_ifnonnullN, Z_ifnonnullq, Z_goto, Z_getI, Z_getZ, Z_getR, Z_putI, Z_putR, Z_putN, Z_putQ, Z_putZ, Z_new, Z_newarray, Z_anewarray, Z_alen, Z_cast, Z_objInit, Z_clone, Z_getClass, Z_copy, Z_max, Z_min, Y_iaload, Y_baload, Y_aaload, Y_iastore, Y_bastore, Y_aastore, Y_aastoreN, lt_0p, lt_1n, va_some, va_none, Option.toList_some, Option.toList_none, List.nil_append, List.cons_append, List.length_nil, List.length_cons, true_and, and_true, if_true, if_false, ite_true, ite_false, Nat.zero_le, Nat.not_lt_zero, Nat.reduceLeDiff, Nat.reduceEqDiff, Nat.reduceAdd, Nat.reduceMul, Nat.reduceSub, Nat.reduceLT, Nat.zero_add, not_true_eq_false, not_false_eq_true, true_or, or_true, false_or, or_false, Nat.add_zero, false_and, and_false, exists_eq_left', Option.some.injEq, k_X9_drop_0, sk_X9_drop_12, sk_X9_drop_46, k_X9_drop_46, Q_X9_drop, C_X9_moveMessage, nI_add, pk_mul, ar_lt, ar_le, ar_eq, z_lt, z_le, z_gt, z_ge, z_eq, z_eq2, ix_nI, nI_clamp, ne_eq, hM.k0, hM.f1, hM.k1, hM.l1, hM.f2, hM.k2, hM.l2, hM.f3, hM.k3, hM.l3, hM.f4, hM.k4, hM.l4, hM.f5, hM.k5, hM.l5, hM.f6, hM.k6, hM.l6, hM.f7, hM.k7, hM.l7, hM.f8, hM.k8, hM.l8, hM.f9, hM.k9, hM.l9, hM.f10, hM.k10, hM.l10, hM.f11, hM.k11, hM.l11, hM.f12, hM.k12, hM.l12, hM.f13, hM.k13, hM.l13, hM.f14, hM.k14, hM.l14, hM.f15, hM.k15, hM.l15, hM.f16, hM.k16, hM.l16, hM.f17, hM.k17, hM.l17, hM.f18, hM.k18, hM.l18, hM.f19, hM.k19, hM.l19, hM.f20, hM.k20, hM.l20, hM.f21, hM.k21, hM.l21, hM.f22, hM.k22, hM.l22, hM.f23, hM.k23, hM.l23, e, show ¬ n ≤ i by omega]
    rw [e_move hM (by omega) (by omega) (by omega)]
    simp (disch := first | omega | assumption) only [Z_iconst, Z_bipush, Z_sipush, Z_ldc, Z_ldcM, Z_ldcw, Z_null, Z_getstatic, Z_iload0, Z_aload0, Z_aloadq0, Z_aloadn0, Z_istore0, Z_astore0, Z_astoreq0, Z_astoren0, Z_iinc0, Z_iload1, Z_aload1, Z_aloadq1, Z_aloadn1, Z_istore1, Z_astore1, Z_astoreq1, Z_astoren1, Z_iinc1, Z_iload2, Z_aload2, Z_aloadq2, Z_aloadn2, Z_istore2, Z_astore2, Z_astoreq2, Z_astoren2, Z_iinc2, Z_iload3, Z_aload3, Z_aloadq3, Z_aloadn3, Z_istore3, Z_astore3, Z_astoreq3, Z_astoren3, Z_iinc3, Z_iload4, Z_aload4, Z_aloadq4, Z_aloadn4, Z_istore4, Z_astore4, Z_astoreq4, Z_astoren4, Z_iinc4, Z_iload5, Z_aload5, Z_aloadq5, Z_aloadn5, Z_istore5, Z_astore5, Z_astoreq5, Z_astoren5, Z_iinc5, Z_iload6, Z_aload6, Z_aloadq6, Z_aloadn6, Z_istore6, Z_astore6, Z_astoreq6, Z_astoren6, Z_iinc6, Z_iload7, Z_aload7, Z_aloadq7, Z_aloadn7, Z_istore7, Z_astore7, Z_astoreq7, Z_astoren7, Z_iinc7, Z_iload8, Z_aload8, Z_aloadq8, Z_aloadn8, Z_istore8, Z_astore8, Z_astoreq8, Z_astoren8, Z_iinc8, Z_iload9, Z_aload9, Z_aloadq9, Z_aloadn9, Z_istore9, Z_astore9, Z_astoreq9, Z_astoren9, Z_iinc9, Z_iload10, Z_aload10, Z_aloadq10, Z_aloadn10, Z_istore10, Z_astore10, Z_astoreq10, Z_astoren10, Z_iinc10, Z_iload11, Z_aload11, Z_aloadq11, Z_aloadn11, Z_istore11, Z_astore11, Z_astoreq11, Z_astoren11, Z_iinc11, Z_iload12, Z_aload12, Z_aloadq12, Z_aloadn12, Z_istore12, Z_astore12, Z_astoreq12, Z_astoren12, Z_iinc12, Z_iadd, Z_isub, Z_imul, Z_iand, Z_ior, Z_ishl, Z_ishr, Z_iushr, Z_idiv, Z_irem, Z_dup, Z_dupx1, Z_dup2, Z_pop, Z_if_eq, Z_icmp_eq, Z_if_ne, Z_icmp_ne, Z_if_lt, Z_icmp_lt, Z_if_le, Z_icmp_le, Z_if_ge, Z_icmp_ge, Z_if_gt, Z_icmp_gt, Z_acmp_eqq1, Z_acmp_eqq2, Z_acmp_eqq3, Z_acmp_eqq4, Z_acmp_neq1, Z_acmp_neq2, Z_acmp_neq3, Z_acmp_neq4, Z_ifnull, Z_ifnullN, Z_ifnullq, Z_ifnonnull, Z_ifnonnullN, Z_ifnonnullq, Z_goto, Z_getI, Z_getZ, Z_getR, Z_putI, Z_putR, Z_putN, Z_putQ, Z_putZ, Z_new, Z_newarray, Z_anewarray, Z_alen, Z_cast, Z_objInit, Z_clone, Z_getClass, Z_copy, Z_max, Z_min, Y_iaload, Y_baload, Y_aaload, Y_iastore, Y_bastore, Y_aastore, Y_aastoreN, lt_0p, lt_1n, va_some, va_none, Option.toList_some, Option.toList_none, List.nil_append, List.cons_append, List.length_nil, List.length_cons, true_and, and_true, if_true, if_false, ite_true, ite_false, Nat.zero_le, Nat.not_lt_zero, Nat.reduceLeDiff, Nat.reduceEqDiff, Nat.reduceAdd, Nat.reduceMul, Nat.reduceSub, Nat.reduceLT, Nat.zero_add, not_true_eq_false, not_false_eq_true, true_or, or_true, false_or, or_false, Nat.add_zero, false_and, and_false, exists_eq_left', Option.some.injEq, k_X9_drop_0, sk_X9_drop_12, sk_X9_drop_46, k_X9_drop_46, Q_X9_drop, C_X9_moveMessage, nI_add, pk_mul, ar_lt, ar_le, ar_eq, z_lt, z_le, z_gt, z_ge, z_eq, z_eq2, ix_nI, nI_clamp, ne_eq]
    exact ih (i + 1) _ (by omega) (by omega) (H.step hki)
/-- message k of way w is gone -/
def drp (s : St) (w k : Nat) : St := w_sWy s (fu (sWy s) w ((sWy s w).eraseIdx k))
theorem gd_erase {α : Type} (l : List α) (d : α) (k j : Nat) : (l.eraseIdx k).getD j d = if j < k then l.getD j d else l.getD (j + 1) d := by
  rw [List.getD_eq_getElem?_getD, List.getElem?_eraseIdx]
  split
  · rw [List.getD_eq_getElem?_getD]
  · rw [List.getD_eq_getElem?_getD]
theorem c_drop {g w k : Nat} {h : Hp} {s : St} {P : Option Value → Hp → Prop} (hM : ML g h) (hR : MR g h s) (hB : Bd s) (hw : w < 16) (hk : k < (sWy s w).length) (hP : ∀ h', Fr g h h' → MR g h' (drp s w k) → P none h') : Ev M_X9_drop [.ref g, .int (nI w), .int (nI k)] h P := by
  have e17 := hR.c17 w hw
  have hb := (hB.2.2.2 w hw).1
  have hle : ((sWy s w).eraseIdx k).length = (sWy s w).length - 1 := List.length_eraseIdx_of_lt hk
  generalize hn : (sWy s w).length = n at e17 hb hk hle
  simp (disch := first | omega | assumption) only [Z_iconst, Z_bipush, Z_sipush, Z_ldc, Z_ldcM, Z_ldcw, Z_null, Z_getstatic, Z_iload0, Z_aload0, Z_aloadq0, Z_aloadn0, Z_istore0, Z_astore0, Z_astoreq0, Z_astoren0, Z_iinc0, Z_iload1, Z_aload1, Z_aloadq1, Z_aloadn1, Z_istore1, Z_astore1, Z_astoreq1, Z_astoren1, Z_iinc1, Z_iload2, Z_aload2, Z_aloadq2, Z_aloadn2, Z_istore2, Z_astore2, Z_astoreq2, Z_astoren2, Z_iinc2, Z_iload3, Z_aload3, Z_aloadq3, Z_aloadn3, Z_istore3, Z_astore3, Z_astoreq3, Z_astoren3, Z_iinc3, Z_iload4, Z_aload4, Z_aloadq4, Z_aloadn4, Z_istore4, Z_astore4, Z_astoreq4, Z_astoren4, Z_iinc4, Z_iload5, Z_aload5, Z_aloadq5, Z_aloadn5, Z_istore5, Z_astore5, Z_astoreq5, Z_astoren5, Z_iinc5, Z_iload6, Z_aload6, Z_aloadq6, Z_aloadn6, Z_istore6, Z_astore6, Z_astoreq6, Z_astoren6, Z_iinc6, Z_iload7, Z_aload7, Z_aloadq7, Z_aloadn7, Z_istore7, Z_astore7, Z_astoreq7, Z_astoren7, Z_iinc7, Z_iload8, Z_aload8, Z_aloadq8, Z_aloadn8, Z_istore8, Z_astore8, Z_astoreq8, Z_astoren8, Z_iinc8, Z_iload9, Z_aload9, Z_aloadq9, Z_aloadn9, Z_istore9, Z_astore9, Z_astoreq9, Z_astoren9, Z_iinc9, Z_iload10, Z_aload10, Z_aloadq10, Z_aloadn10, Z_istore10, Z_astore10, Z_astoreq10, Z_astoren10, Z_iinc10, Z_iload11, Z_aload11, Z_aloadq11, Z_aloadn11, Z_istore11, Z_astore11, Z_astoreq11, Z_astoren11, Z_iinc11, Z_iload12, Z_aload12, Z_aloadq12, Z_aloadn12, Z_istore12, Z_astore12, Z_astoreq12, Z_astoren12, Z_iinc12, Z_iadd, Z_isub, Z_imul, Z_iand, Z_ior, Z_ishl, Z_ishr, Z_iushr, Z_idiv, Z_irem, Z_dup, Z_dupx1, Z_dup2, Z_pop, Z_if_eq, Z_icmp_eq, Z_if_ne, Z_icmp_ne, Z_if_lt, Z_icmp_lt, Z_if_le, Z_icmp_le, Z_if_ge, Z_icmp_ge, Z_if_gt, Z_icmp_gt, Z_acmp_eqq1, Z_acmp_eqq2, Z_acmp_eqq3, Z_acmp_eqq4, Z_acmp_neq1, Z_acmp_neq2, Z_acmp_neq3, Z_acmp_neq4, Z_ifnull, Z_ifnullN, Z_ifnullq, Z_ifnonnull, Z_ifnonnullN, Z_ifnonnullq, Z_goto, Z_getI, Z_getZ, Z_getR, Z_putI, Z_putR, Z_putN, Z_putQ, Z_putZ, Z_new, Z_newarray, Z_anewarray, Z_alen, Z_cast, Z_objInit, Z_clone, Z_getClass, Z_copy, Z_max, Z_min, Y_iaload, Y_baload, Y_aaload, Y_iastore, Y_bastore, Y_aastore, Y_aastoreN, lt_0p, lt_1n, va_some, va_none, Option.toList_some, Option.toList_none, List.nil_append, List.cons_append, List.length_nil, List.length_cons, true_and, and_true, if_true, if_false, ite_true, ite_false, Nat.zero_le, Nat.not_lt_zero, Nat.reduceLeDiff, Nat.reduceEqDiff, Nat.reduceAdd, Nat.reduceMul, Nat.reduceSub, Nat.reduceLT, Nat.zero_add, not_true_eq_false, not_false_eq_true, true_or, or_true, false_or, or_false, Nat.add_zero, false_and, and_false, exists_eq_left', Option.some.injEq, k_X9_drop_0, sk_X9_drop_12, sk_X9_drop_46, k_X9_drop_46, Q_X9_drop, C_X9_moveMessage, E_X9_drop, nI_add, pk_mul, ar_lt, ar_le, ar_eq, z_lt, z_le, z_gt, z_ge, z_eq, z_eq2, ix_nI, nI_clamp, ne_eq, hM.k0, hM.f1, hM.k1, hM.l1, hM.f2, hM.k2, hM.l2, hM.f3, hM.k3, hM.l3, hM.f4, hM.k4, hM.l4, hM.f5, hM.k5, hM.l5, hM.f6, hM.k6, hM.l6, hM.f7, hM.k7, hM.l7, hM.f8, hM.k8, hM.l8, hM.f9, hM.k9, hM.l9, hM.f10, hM.k10, hM.l10, hM.f11, hM.k11, hM.l11, hM.f12, hM.k12, hM.l12, hM.f13, hM.k13, hM.l13, hM.f14, hM.k14, hM.l14, hM.f15, hM.k15, hM.l15, hM.f16, hM.k16, hM.l16, hM.f17, hM.k17, hM.l17, hM.f18, hM.k18, hM.l18, hM.f19, hM.k19, hM.l19, hM.f20, hM.k20, hM.l20, hM.f21, hM.k21, hM.l21, hM.f22, hM.k22, hM.l22, hM.f23, hM.k23, hM.l23, kd_wfI, ln_wfI, fI_wfI, fR_wfI, aI_wfI, aR_wfI, gc_wfI, sz_wfI, sl_wfI, kd_wfR, ln_wfR, fI_wfR, fR_wfR, aI_wfR, aR_wfR, gc_wfR, sz_wfR, sl_wfR, kd_waI, ln_waI, fI_waI, fR_waI, aI_waI, aR_waI, gc_waI, sz_waI, sl_waI, kd_waR, ln_waR, fI_waR, fR_waR, aI_waR, aR_waR, gc_waR, sz_waR, sl_waR, kd_hnew, ln_hnew, fI_hnew, fR_hnew, aI_hnew, aR_hnew, gc_hnew, sz_hnew, sl_hnew, ac_eq, e17, pk_sub]
  refine l_drop (h0 := waI h (g + 17) w (nI (n - 1))) (n := n - 1) (k := k) hM hw (by omega) (by simp only [aI_waI, true_and, if_true]) (fun h' H => ?_) (n - 1 - k) k _ (by omega) (Nat.le_refl _) ⟨Fr.rf, fun x => by rw [if_neg (by omega)], fun x => by rw [if_neg (by omega)], fun x => by rw [if_neg (by omega)], fun q _ _ _ => rfl⟩
  obtain ⟨f, s1, s2, s3, s4⟩ := H
  refine hP h' ((Fr.rf.wa (k := 17) (by decide) (by decide)).tr f) ?_
  have old : ∀ y, y ≠ 17 → y ≠ 18 → y ≠ 19 → y ≠ 20 → aI h' (g + y) = aI h (g + y) := by
    intro y h1 h2 h3 h4
    rw [s4 (g + y) (by omega) (by omega) (by omega)]
    funext x
    simp only [aI_waI, ac_eq, h1, false_and, if_false]
  refine ⟨?_, ?_, ?_, ?_, ?_, ?_, ?_, ?_, ?_, ?_, ?_, ?_, ?_, ?_, ?_, ?_, ?_, ?_, ?_, ?_⟩
  · intro r' hr'; rw [old 1 (by decide) (by decide) (by decide) (by decide)]; exact hR.c1 r' hr'
  · intro r' hr'; rw [old 2 (by decide) (by decide) (by decide) (by decide)]; exact hR.c2 r' hr'
  · intro r' hr'; rw [old 3 (by decide) (by decide) (by decide) (by decide)]; exact hR.c3 r' hr'
  · intro r' hr'; rw [old 4 (by decide) (by decide) (by decide) (by decide)]; exact hR.c4 r' hr'
  · intro r' hr'; rw [old 5 (by decide) (by decide) (by decide) (by decide)]; exact hR.c5 r' hr'
  · intro r' hr'; rw [old 6 (by decide) (by decide) (by decide) (by decide)]; exact hR.c6 r' hr'
  · intro r' j' hr' hj'; rw [old 7 (by decide) (by decide) (by decide) (by decide)]; exact hR.c7 r' j' hr' hj'
  · intro r' hr'; rw [old 8 (by decide) (by decide) (by decide) (by decide)]; exact hR.c8 r' hr'
  · intro r' j' hr' hj'; rw [old 9 (by decide) (by decide) (by decide) (by decide)]; exact hR.c9 r' j' hr' hj'
  · intro r' hr'; rw [old 10 (by decide) (by decide) (by decide) (by decide)]; exact hR.c10 r' hr'
  · intro r' hr'; rw [old 11 (by decide) (by decide) (by decide) (by decide)]; exact hR.c11 r' hr'
  · intro r' j' hr' hj'; rw [old 12 (by decide) (by decide) (by decide) (by decide)]; exact hR.c12 r' j' hr' hj'
  · intro r' j' hr' hj'; rw [old 13 (by decide) (by decide) (by decide) (by decide)]; exact hR.c13 r' j' hr' hj'
  · intro r' hr'; rw [old 14 (by decide) (by decide) (by decide) (by decide)]; exact hR.c14 r' hr'
  · intro r' j' hr' hj'; rw [old 15 (by decide) (by decide) (by decide) (by decide)]; exact hR.c15 r' j' hr' hj'
  · intro r' i' j' hr' hi' hj'; rw [old 16 (by decide) (by decide) (by decide) (by decide)]; exact hR.c16 r' i' j' hr' hi' hj'
  · intro w' hw'
    rw [s4 (g + 17) (by omega) (by omega) (by omega)]
    simp only [aI_waI, true_and]
    show _ = nI (fu (sWy s) w ((sWy s w).eraseIdx k) w').length
    unfold fu
    by_cases hww : w' = w
    · rw [if_pos hww, if_pos hww, hle]
    · rw [if_neg hww, if_neg hww]
      exact hR.c17 w' hw'
  · intro w' k' hw' hk'
    have hk' : k' < (fu (sWy s) w ((sWy s w).eraseIdx k) w').length := hk'
    rw [s1]
    simp only [aI_waI, ac_eq, Nat.reduceEqDiff, false_and, if_false]
    show _ = nI ((fu (sWy s) w ((sWy s w).eraseIdx k) w').getD k' (0, 0, fun _ => 0)).1
    unfold fu at hk' ⊢
    by_cases hww : w' = w
    · subst hww
      rw [if_pos rfl] at hk' ⊢
      rw [hle] at hk'
      rw [gd_erase]
      by_cases hkk : k' < k
      · rw [if_neg (by omega), if_pos hkk]
        exact hR.c18 w' k' hw' (by omega)
      · rw [if_pos (by omega), if_neg hkk]
        exact hR.c18 w' (k' + 1) hw' (by omega)
    · rw [if_neg hww] at hk' ⊢
      have := (hB.2.2.2 w' hw').1
      rw [if_neg (by omega)]
      exact hR.c18 w' k' hw' hk'
  · intro w' k' hw' hk'
    have hk' : k' < (fu (sWy s) w ((sWy s w).eraseIdx k) w').length := hk'
    rw [s2]
    simp only [aI_waI, ac_eq, Nat.reduceEqDiff, false_and, if_false]
    show _ = nI ((fu (sWy s) w ((sWy s w).eraseIdx k) w').getD k' (0, 0, fun _ => 0)).2.1
    unfold fu at hk' ⊢
    by_cases hww : w' = w
    · subst hww
      rw [if_pos rfl] at hk' ⊢
      rw [hle] at hk'
      rw [gd_erase]
      by_cases hkk : k' < k
      · rw [if_neg (by omega), if_pos hkk]
        exact hR.c19 w' k' hw' (by omega)
      · rw [if_pos (by omega), if_neg hkk]
        exact hR.c19 w' (k' + 1) hw' (by omega)
    · rw [if_neg hww] at hk' ⊢
      have := (hB.2.2.2 w' hw').1
      rw [if_neg (by omega)]
      exact hR.c19 w' k' hw' hk'
  · intro w' k' j' hw' hk' hj'
    have hk' : k' < (fu (sWy s) w ((sWy s w).eraseIdx k) w').length := hk'
    rw [s3]
    simp only [aI_waI, ac_eq, Nat.reduceEqDiff, false_and, if_false]
    show _ = nI (((fu (sWy s) w ((sWy s w).eraseIdx k) w').getD k' (0, 0, fun _ => 0)).2.2 j')
    unfold fu at hk' ⊢
    by_cases hww : w' = w
    · subst hww
      rw [if_pos rfl] at hk' ⊢
      rw [hle] at hk'
      rw [gd_erase]
      by_cases hkk : k' < k
      · rw [if_neg (by omega), if_pos hkk]
        exact hR.c20 w' k' j' hw' (by omega) hj'
      · rw [if_pos (by omega), if_neg hkk]
        rw [show 4 * (30 * w' + k') + j' + 4 = 4 * (30 * w' + (k' + 1)) + j' by omega]
        exact hR.c20 w' (k' + 1) j' hw' (by omega) hj'
    · rw [if_neg hww] at hk' ⊢
      have := (hB.2.2.2 w' hw').1
      rw [if_neg (by omega)]
      exact hR.c20 w' k' j' hw' hk' hj'
end
