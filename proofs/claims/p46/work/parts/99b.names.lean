-- ===== PART A: goes FIRST, ahead of the names: the tables' words, and 'selects' of the private methods out of them =====
/-- a private method of a class that the tables say can be made, by its rows of tables_1 -/
def lw_okq (q : MethodName × Nat) : Prop := (q.1.cls ≠ "java/lang/invoke/MethodHandle" ∧ q.1.cls ≠ "java/lang/invoke/VarHandle") ∧ Cond.instantiable q.1.cls q.2 ∈ tables_1 ∧ Cond.privateMethod q.1 ∈ tables_1 ∧ Cond.instanceMethod q.1 ∈ tables_1
theorem lw_p0 : lw_okq (⟨"java/lang/Throwable", "fillInStackTrace", "(I)Ljava/lang/Throwable;"⟩, 6) := ⟨⟨by decide +kernel, by decide +kernel⟩, List.mem_of_getElem? (i := 204) (by decide +kernel), List.mem_of_getElem? (i := 202) (by decide +kernel), List.mem_of_getElem? (i := 203) (by decide +kernel)⟩
theorem lw_p1 : lw_okq (⟨"Ropewalk", "depotOf", "(I)LRopewalk$Depot;"⟩, 10) := ⟨⟨by decide +kernel, by decide +kernel⟩, List.mem_of_getElem? (i := 28) (by decide +kernel), List.mem_of_getElem? (i := 266) (by decide +kernel), List.mem_of_getElem? (i := 267) (by decide +kernel)⟩
theorem lw_p2 : lw_okq (⟨"java/util/ArrayList", "add", "(Ljava/lang/Object;[Ljava/lang/Object;I)V"⟩, 3) := ⟨⟨by decide +kernel, by decide +kernel⟩, List.mem_of_getElem? (i := 40) (by decide +kernel), List.mem_of_getElem? (i := 383) (by decide +kernel), List.mem_of_getElem? (i := 384) (by decide +kernel)⟩
theorem lw_p3 : lw_okq (⟨"java/util/ArrayList", "grow", "()[Ljava/lang/Object;"⟩, 3) := ⟨⟨by decide +kernel, by decide +kernel⟩, List.mem_of_getElem? (i := 40) (by decide +kernel), List.mem_of_getElem? (i := 387) (by decide +kernel), List.mem_of_getElem? (i := 388) (by decide +kernel)⟩
theorem lw_p4 : lw_okq (⟨"java/util/ArrayList", "grow", "(I)[Ljava/lang/Object;"⟩, 3) := ⟨⟨by decide +kernel, by decide +kernel⟩, List.mem_of_getElem? (i := 40) (by decide +kernel), List.mem_of_getElem? (i := 391) (by decide +kernel), List.mem_of_getElem? (i := 392) (by decide +kernel)⟩
theorem lw_p5 : lw_okq (⟨"Ropewalk", "laneOf", "(I)LRopewalk$Lane;"⟩, 10) := ⟨⟨by decide +kernel, by decide +kernel⟩, List.mem_of_getElem? (i := 28) (by decide +kernel), List.mem_of_getElem? (i := 443) (by decide +kernel), List.mem_of_getElem? (i := 444) (by decide +kernel)⟩
theorem lw_p6 : lw_okq (⟨"Ropewalk", "addressOf", "(I)LRopewalk$Address;"⟩, 10) := ⟨⟨by decide +kernel, by decide +kernel⟩, List.mem_of_getElem? (i := 28) (by decide +kernel), List.mem_of_getElem? (i := 493) (by decide +kernel), List.mem_of_getElem? (i := 494) (by decide +kernel)⟩
theorem lw_p7 : lw_okq (⟨"Ropewalk", "customerOf", "(I)LRopewalk$Customer;"⟩, 10) := ⟨⟨by decide +kernel, by decide +kernel⟩, List.mem_of_getElem? (i := 28) (by decide +kernel), List.mem_of_getElem? (i := 501) (by decide +kernel), List.mem_of_getElem? (i := 502) (by decide +kernel)⟩
theorem lw_p8 : lw_okq (⟨"Ropewalk", "hasReference", "(LRopewalk$Customer;I)Z"⟩, 10) := ⟨⟨by decide +kernel, by decide +kernel⟩, List.mem_of_getElem? (i := 28) (by decide +kernel), List.mem_of_getElem? (i := 505) (by decide +kernel), List.mem_of_getElem? (i := 506) (by decide +kernel)⟩
theorem lw_p9 : lw_okq (⟨"Ropewalk", "putUnsorted", "(LRopewalk$Parcel;LRopewalk$Depot;)V"⟩, 10) := ⟨⟨by decide +kernel, by decide +kernel⟩, List.mem_of_getElem? (i := 28) (by decide +kernel), List.mem_of_getElem? (i := 681) (by decide +kernel), List.mem_of_getElem? (i := 682) (by decide +kernel)⟩
theorem lw_p10 : lw_okq (⟨"java/util/ArrayList", "fastRemove", "([Ljava/lang/Object;I)V"⟩, 3) := ⟨⟨by decide +kernel, by decide +kernel⟩, List.mem_of_getElem? (i := 40) (by decide +kernel), List.mem_of_getElem? (i := 697) (by decide +kernel), List.mem_of_getElem? (i := 698) (by decide +kernel)⟩
theorem lw_p11 : lw_okq (⟨"Ropewalk", "note", "(LRopewalk$Parcel;LRopewalk$Depot;I)V"⟩, 10) := ⟨⟨by decide +kernel, by decide +kernel⟩, List.mem_of_getElem? (i := 28) (by decide +kernel), List.mem_of_getElem? (i := 707) (by decide +kernel), List.mem_of_getElem? (i := 708) (by decide +kernel)⟩
theorem lw_p12 : lw_okq (⟨"Ropewalk", "parcelOf", "(I)LRopewalk$Parcel;"⟩, 10) := ⟨⟨by decide +kernel, by decide +kernel⟩, List.mem_of_getElem? (i := 28) (by decide +kernel), List.mem_of_getElem? (i := 738) (by decide +kernel), List.mem_of_getElem? (i := 739) (by decide +kernel)⟩
theorem lw_p13 : lw_okq (⟨"Ropewalk", "bringTrailers", "()V"⟩, 10) := ⟨⟨by decide +kernel, by decide +kernel⟩, List.mem_of_getElem? (i := 28) (by decide +kernel), List.mem_of_getElem? (i := 822) (by decide +kernel), List.mem_of_getElem? (i := 823) (by decide +kernel)⟩
theorem lw_p14 : lw_okq (⟨"Ropewalk", "bring", "(LRopewalk$Parcel;LRopewalk$Lane;)V"⟩, 10) := ⟨⟨by decide +kernel, by decide +kernel⟩, List.mem_of_getElem? (i := 28) (by decide +kernel), List.mem_of_getElem? (i := 830) (by decide +kernel), List.mem_of_getElem? (i := 831) (by decide +kernel)⟩
theorem lw_p15 : lw_okq (⟨"Ropewalk", "hold", "(LRopewalk$Parcel;LRopewalk$Depot;Z)V"⟩, 10) := ⟨⟨by decide +kernel, by decide +kernel⟩, List.mem_of_getElem? (i := 28) (by decide +kernel), List.mem_of_getElem? (i := 837) (by decide +kernel), List.mem_of_getElem? (i := 838) (by decide +kernel)⟩
def lw_privs_1 : List (MethodName × Nat) := [(⟨"java/lang/Throwable", "fillInStackTrace", "(I)Ljava/lang/Throwable;"⟩, 6), (⟨"Ropewalk", "depotOf", "(I)LRopewalk$Depot;"⟩, 10), (⟨"java/util/ArrayList", "add", "(Ljava/lang/Object;[Ljava/lang/Object;I)V"⟩, 3), (⟨"java/util/ArrayList", "grow", "()[Ljava/lang/Object;"⟩, 3), (⟨"java/util/ArrayList", "grow", "(I)[Ljava/lang/Object;"⟩, 3), (⟨"Ropewalk", "laneOf", "(I)LRopewalk$Lane;"⟩, 10), (⟨"Ropewalk", "addressOf", "(I)LRopewalk$Address;"⟩, 10), (⟨"Ropewalk", "customerOf", "(I)LRopewalk$Customer;"⟩, 10), (⟨"Ropewalk", "hasReference", "(LRopewalk$Customer;I)Z"⟩, 10), (⟨"Ropewalk", "putUnsorted", "(LRopewalk$Parcel;LRopewalk$Depot;)V"⟩, 10), (⟨"java/util/ArrayList", "fastRemove", "([Ljava/lang/Object;I)V"⟩, 3), (⟨"Ropewalk", "note", "(LRopewalk$Parcel;LRopewalk$Depot;I)V"⟩, 10), (⟨"Ropewalk", "parcelOf", "(I)LRopewalk$Parcel;"⟩, 10), (⟨"Ropewalk", "bringTrailers", "()V"⟩, 10), (⟨"Ropewalk", "bring", "(LRopewalk$Parcel;LRopewalk$Lane;)V"⟩, 10), (⟨"Ropewalk", "hold", "(LRopewalk$Parcel;LRopewalk$Depot;Z)V"⟩, 10)]
theorem lw_r1 : ∀ q ∈ lw_privs_1, lw_okq q := List.forall_mem_cons.mpr ⟨lw_p0, List.forall_mem_cons.mpr ⟨lw_p1, List.forall_mem_cons.mpr ⟨lw_p2, List.forall_mem_cons.mpr ⟨lw_p3, List.forall_mem_cons.mpr ⟨lw_p4, List.forall_mem_cons.mpr ⟨lw_p5, List.forall_mem_cons.mpr ⟨lw_p6, List.forall_mem_cons.mpr ⟨lw_p7, List.forall_mem_cons.mpr ⟨lw_p8, List.forall_mem_cons.mpr ⟨lw_p9, List.forall_mem_cons.mpr ⟨lw_p10, List.forall_mem_cons.mpr ⟨lw_p11, List.forall_mem_cons.mpr ⟨lw_p12, List.forall_mem_cons.mpr ⟨lw_p13, List.forall_mem_cons.mpr ⟨lw_p14, List.forall_mem_cons.mpr ⟨lw_p15, fun _ h => absurd h List.not_mem_nil⟩⟩⟩⟩⟩⟩⟩⟩⟩⟩⟩⟩⟩⟩⟩⟩
theorem lw_p16 : lw_okq (⟨"Ropewalk", "emptyLockers", "()V"⟩, 10) := ⟨⟨by decide +kernel, by decide +kernel⟩, List.mem_of_getElem? (i := 28) (by decide +kernel), List.mem_of_getElem? (i := 841) (by decide +kernel), List.mem_of_getElem? (i := 842) (by decide +kernel)⟩
theorem lw_p17 : lw_okq (⟨"Ropewalk", "sendBack", "(LRopewalk$Parcel;LRopewalk$Depot;)V"⟩, 10) := ⟨⟨by decide +kernel, by decide +kernel⟩, List.mem_of_getElem? (i := 28) (by decide +kernel), List.mem_of_getElem? (i := 845) (by decide +kernel), List.mem_of_getElem? (i := 846) (by decide +kernel)⟩
theorem lw_p18 : lw_okq (⟨"Ropewalk", "sortEverywhere", "()V"⟩, 10) := ⟨⟨by decide +kernel, by decide +kernel⟩, List.mem_of_getElem? (i := 28) (by decide +kernel), List.mem_of_getElem? (i := 853) (by decide +kernel), List.mem_of_getElem? (i := 854) (by decide +kernel)⟩
theorem lw_p19 : lw_okq (⟨"Ropewalk", "pickExpressFirst", "(Ljava/util/ArrayList;)V"⟩, 10) := ⟨⟨by decide +kernel, by decide +kernel⟩, List.mem_of_getElem? (i := 28) (by decide +kernel), List.mem_of_getElem? (i := 857) (by decide +kernel), List.mem_of_getElem? (i := 858) (by decide +kernel)⟩
theorem lw_p20 : lw_okq (⟨"Ropewalk", "addThose", "(Ljava/util/ArrayList;Z)V"⟩, 10) := ⟨⟨by decide +kernel, by decide +kernel⟩, List.mem_of_getElem? (i := 28) (by decide +kernel), List.mem_of_getElem? (i := 865) (by decide +kernel), List.mem_of_getElem? (i := 866) (by decide +kernel)⟩
theorem lw_p21 : lw_okq (⟨"Ropewalk", "sortOne", "(LRopewalk$Parcel;LRopewalk$Depot;)V"⟩, 10) := ⟨⟨by decide +kernel, by decide +kernel⟩, List.mem_of_getElem? (i := 28) (by decide +kernel), List.mem_of_getElem? (i := 873) (by decide +kernel), List.mem_of_getElem? (i := 874) (by decide +kernel)⟩
theorem lw_p22 : lw_okq (⟨"Ropewalk", "putReady", "(LRopewalk$Parcel;LRopewalk$Depot;)V"⟩, 10) := ⟨⟨by decide +kernel, by decide +kernel⟩, List.mem_of_getElem? (i := 28) (by decide +kernel), List.mem_of_getElem? (i := 888) (by decide +kernel), List.mem_of_getElem? (i := 889) (by decide +kernel)⟩
theorem lw_p23 : lw_okq (⟨"Ropewalk", "sendTrailers", "()V"⟩, 10) := ⟨⟨by decide +kernel, by decide +kernel⟩, List.mem_of_getElem? (i := 28) (by decide +kernel), List.mem_of_getElem? (i := 892) (by decide +kernel), List.mem_of_getElem? (i := 893) (by decide +kernel)⟩
theorem lw_p24 : lw_okq (⟨"Ropewalk", "load", "(LRopewalk$Lane;)V"⟩, 10) := ⟨⟨by decide +kernel, by decide +kernel⟩, List.mem_of_getElem? (i := 28) (by decide +kernel), List.mem_of_getElem? (i := 910) (by decide +kernel), List.mem_of_getElem? (i := 911) (by decide +kernel)⟩
theorem lw_p25 : lw_okq (⟨"Ropewalk", "driveVans", "()I"⟩, 10) := ⟨⟨by decide +kernel, by decide +kernel⟩, List.mem_of_getElem? (i := 28) (by decide +kernel), List.mem_of_getElem? (i := 914) (by decide +kernel), List.mem_of_getElem? (i := 915) (by decide +kernel)⟩
theorem lw_p26 : lw_okq (⟨"Ropewalk", "doStops", "(LRopewalk$Van;)I"⟩, 10) := ⟨⟨by decide +kernel, by decide +kernel⟩, List.mem_of_getElem? (i := 28) (by decide +kernel), List.mem_of_getElem? (i := 918) (by decide +kernel), List.mem_of_getElem? (i := 919) (by decide +kernel)⟩
theorem lw_p27 : lw_okq (⟨"Ropewalk", "handOver", "(LRopewalk$Parcel;)V"⟩, 10) := ⟨⟨by decide +kernel, by decide +kernel⟩, List.mem_of_getElem? (i := 28) (by decide +kernel), List.mem_of_getElem? (i := 926) (by decide +kernel), List.mem_of_getElem? (i := 927) (by decide +kernel)⟩
theorem lw_p28 : lw_okq (⟨"Ropewalk", "endRound", "(LRopewalk$Van;)V"⟩, 10) := ⟨⟨by decide +kernel, by decide +kernel⟩, List.mem_of_getElem? (i := 28) (by decide +kernel), List.mem_of_getElem? (i := 930) (by decide +kernel), List.mem_of_getElem? (i := 931) (by decide +kernel)⟩
theorem lw_p29 : lw_okq (⟨"Ropewalk", "bringBack", "(LRopewalk$Parcel;LRopewalk$Depot;)V"⟩, 10) := ⟨⟨by decide +kernel, by decide +kernel⟩, List.mem_of_getElem? (i := 28) (by decide +kernel), List.mem_of_getElem? (i := 934) (by decide +kernel), List.mem_of_getElem? (i := 935) (by decide +kernel)⟩
theorem lw_p30 : lw_okq (⟨"Ropewalk", "lockerWithRoom", "(LRopewalk$Depot;I)LRopewalk$Locker;"⟩, 10) := ⟨⟨by decide +kernel, by decide +kernel⟩, List.mem_of_getElem? (i := 28) (by decide +kernel), List.mem_of_getElem? (i := 938) (by decide +kernel), List.mem_of_getElem? (i := 939) (by decide +kernel)⟩
theorem lw_p31 : lw_okq (⟨"Ropewalk", "beginRound", "(LRopewalk$Van;)V"⟩, 10) := ⟨⟨by decide +kernel, by decide +kernel⟩, List.mem_of_getElem? (i := 28) (by decide +kernel), List.mem_of_getElem? (i := 957) (by decide +kernel), List.mem_of_getElem? (i := 958) (by decide +kernel)⟩
def lw_privs_2 : List (MethodName × Nat) := [(⟨"Ropewalk", "emptyLockers", "()V"⟩, 10), (⟨"Ropewalk", "sendBack", "(LRopewalk$Parcel;LRopewalk$Depot;)V"⟩, 10), (⟨"Ropewalk", "sortEverywhere", "()V"⟩, 10), (⟨"Ropewalk", "pickExpressFirst", "(Ljava/util/ArrayList;)V"⟩, 10), (⟨"Ropewalk", "addThose", "(Ljava/util/ArrayList;Z)V"⟩, 10), (⟨"Ropewalk", "sortOne", "(LRopewalk$Parcel;LRopewalk$Depot;)V"⟩, 10), (⟨"Ropewalk", "putReady", "(LRopewalk$Parcel;LRopewalk$Depot;)V"⟩, 10), (⟨"Ropewalk", "sendTrailers", "()V"⟩, 10), (⟨"Ropewalk", "load", "(LRopewalk$Lane;)V"⟩, 10), (⟨"Ropewalk", "driveVans", "()I"⟩, 10), (⟨"Ropewalk", "doStops", "(LRopewalk$Van;)I"⟩, 10), (⟨"Ropewalk", "handOver", "(LRopewalk$Parcel;)V"⟩, 10), (⟨"Ropewalk", "endRound", "(LRopewalk$Van;)V"⟩, 10), (⟨"Ropewalk", "bringBack", "(LRopewalk$Parcel;LRopewalk$Depot;)V"⟩, 10), (⟨"Ropewalk", "lockerWithRoom", "(LRopewalk$Depot;I)LRopewalk$Locker;"⟩, 10), (⟨"Ropewalk", "beginRound", "(LRopewalk$Van;)V"⟩, 10)]
theorem lw_r2 : ∀ q ∈ lw_privs_2, lw_okq q := List.forall_mem_cons.mpr ⟨lw_p16, List.forall_mem_cons.mpr ⟨lw_p17, List.forall_mem_cons.mpr ⟨lw_p18, List.forall_mem_cons.mpr ⟨lw_p19, List.forall_mem_cons.mpr ⟨lw_p20, List.forall_mem_cons.mpr ⟨lw_p21, List.forall_mem_cons.mpr ⟨lw_p22, List.forall_mem_cons.mpr ⟨lw_p23, List.forall_mem_cons.mpr ⟨lw_p24, List.forall_mem_cons.mpr ⟨lw_p25, List.forall_mem_cons.mpr ⟨lw_p26, List.forall_mem_cons.mpr ⟨lw_p27, List.forall_mem_cons.mpr ⟨lw_p28, List.forall_mem_cons.mpr ⟨lw_p29, List.forall_mem_cons.mpr ⟨lw_p30, List.forall_mem_cons.mpr ⟨lw_p31, fun _ h => absurd h List.not_mem_nil⟩⟩⟩⟩⟩⟩⟩⟩⟩⟩⟩⟩⟩⟩⟩⟩
theorem lw_p32 : lw_okq (⟨"Ropewalk", "nextForRound", "(LRopewalk$Depot;I)LRopewalk$Parcel;"⟩, 10) := ⟨⟨by decide +kernel, by decide +kernel⟩, List.mem_of_getElem? (i := 28) (by decide +kernel), List.mem_of_getElem? (i := 961) (by decide +kernel), List.mem_of_getElem? (i := 962) (by decide +kernel)⟩
theorem lw_p33 : lw_okq (⟨"Ropewalk", "payCash", "()V"⟩, 10) := ⟨⟨by decide +kernel, by decide +kernel⟩, List.mem_of_getElem? (i := 28) (by decide +kernel), List.mem_of_getElem? (i := 981) (by decide +kernel), List.mem_of_getElem? (i := 982) (by decide +kernel)⟩
theorem lw_p34 : lw_okq (⟨"Ropewalk", "putUnsortedThere", "(LRopewalk$Parcel;)V"⟩, 10) := ⟨⟨by decide +kernel, by decide +kernel⟩, List.mem_of_getElem? (i := 28) (by decide +kernel), List.mem_of_getElem? (i := 997) (by decide +kernel), List.mem_of_getElem? (i := 998) (by decide +kernel)⟩
theorem lw_p35 : lw_okq (⟨"Ropewalk", "turn", "(LRopewalk$Parcel;)V"⟩, 10) := ⟨⟨by decide +kernel, by decide +kernel⟩, List.mem_of_getElem? (i := 28) (by decide +kernel), List.mem_of_getElem? (i := 1018) (by decide +kernel), List.mem_of_getElem? (i := 1019) (by decide +kernel)⟩
theorem lw_p36 : lw_okq (⟨"Ropewalk", "lockerOf", "(I)LRopewalk$Locker;"⟩, 10) := ⟨⟨by decide +kernel, by decide +kernel⟩, List.mem_of_getElem? (i := 28) (by decide +kernel), List.mem_of_getElem? (i := 1038) (by decide +kernel), List.mem_of_getElem? (i := 1039) (by decide +kernel)⟩
theorem lw_p37 : lw_okq (⟨"Ropewalk", "parcelByCode", "(LRopewalk$Locker;I)LRopewalk$Parcel;"⟩, 10) := ⟨⟨by decide +kernel, by decide +kernel⟩, List.mem_of_getElem? (i := 28) (by decide +kernel), List.mem_of_getElem? (i := 1042) (by decide +kernel), List.mem_of_getElem? (i := 1043) (by decide +kernel)⟩
theorem lw_p38 : lw_okq (⟨"Ropewalk", "dueForGone", "(LRopewalk$Parcel;Z)I"⟩, 10) := ⟨⟨by decide +kernel, by decide +kernel⟩, List.mem_of_getElem? (i := 28) (by decide +kernel), List.mem_of_getElem? (i := 1050) (by decide +kernel), List.mem_of_getElem? (i := 1051) (by decide +kernel)⟩
theorem lw_p39 : lw_okq (⟨"Ropewalk", "dueForLate", "(LRopewalk$Parcel;)I"⟩, 10) := ⟨⟨by decide +kernel, by decide +kernel⟩, List.mem_of_getElem? (i := 28) (by decide +kernel), List.mem_of_getElem? (i := 1062) (by decide +kernel), List.mem_of_getElem? (i := 1063) (by decide +kernel)⟩
theorem lw_p40 : lw_okq (⟨"Ropewalk", "freeReference", "(LRopewalk$Customer;I)I"⟩, 10) := ⟨⟨by decide +kernel, by decide +kernel⟩, List.mem_of_getElem? (i := 28) (by decide +kernel), List.mem_of_getElem? (i := 1070) (by decide +kernel), List.mem_of_getElem? (i := 1071) (by decide +kernel)⟩
theorem lw_p41 : lw_okq (⟨"Ropewalk", "vanOf", "(I)LRopewalk$Van;"⟩, 10) := ⟨⟨by decide +kernel, by decide +kernel⟩, List.mem_of_getElem? (i := 28) (by decide +kernel), List.mem_of_getElem? (i := 1109) (by decide +kernel), List.mem_of_getElem? (i := 1110) (by decide +kernel)⟩
theorem lw_p42 : lw_okq (⟨"Ropewalk", "quickest", "(LRopewalk$Depot;LRopewalk$Depot;)I"⟩, 10) := ⟨⟨by decide +kernel, by decide +kernel⟩, List.mem_of_getElem? (i := 28) (by decide +kernel), List.mem_of_getElem? (i := 1141) (by decide +kernel), List.mem_of_getElem? (i := 1142) (by decide +kernel)⟩
theorem lw_p43 : lw_okq (⟨"Ropewalk", "foreseenFrom", "(LRopewalk$Parcel;LRopewalk$Depot;II)I"⟩, 10) := ⟨⟨by decide +kernel, by decide +kernel⟩, List.mem_of_getElem? (i := 28) (by decide +kernel), List.mem_of_getElem? (i := 1161) (by decide +kernel), List.mem_of_getElem? (i := 1162) (by decide +kernel)⟩
theorem lw_p44 : lw_okq (⟨"Ropewalk", "nextStart", "(LRopewalk$Depot;I)I"⟩, 10) := ⟨⟨by decide +kernel, by decide +kernel⟩, List.mem_of_getElem? (i := 28) (by decide +kernel), List.mem_of_getElem? (i := 1165) (by decide +kernel), List.mem_of_getElem? (i := 1166) (by decide +kernel)⟩
theorem lw_p45 : lw_okq (⟨"Ropewalk", "laneOrNull", "(I)LRopewalk$Lane;"⟩, 10) := ⟨⟨by decide +kernel, by decide +kernel⟩, List.mem_of_getElem? (i := 28) (by decide +kernel), List.mem_of_getElem? (i := 1173) (by decide +kernel), List.mem_of_getElem? (i := 1174) (by decide +kernel)⟩
theorem lw_p46 : lw_okq (⟨"Ropewalk", "foreseenInRow", "(LRopewalk$Parcel;LRopewalk$Lane;)I"⟩, 10) := ⟨⟨by decide +kernel, by decide +kernel⟩, List.mem_of_getElem? (i := 28) (by decide +kernel), List.mem_of_getElem? (i := 1177) (by decide +kernel), List.mem_of_getElem? (i := 1178) (by decide +kernel)⟩
theorem lw_p47 : lw_okq (⟨"Ropewalk", "foreseenOver", "(LRopewalk$Parcel;LRopewalk$Lane;II)I"⟩, 10) := ⟨⟨by decide +kernel, by decide +kernel⟩, List.mem_of_getElem? (i := 28) (by decide +kernel), List.mem_of_getElem? (i := 1181) (by decide +kernel), List.mem_of_getElem? (i := 1182) (by decide +kernel)⟩
def lw_privs_3 : List (MethodName × Nat) := [(⟨"Ropewalk", "nextForRound", "(LRopewalk$Depot;I)LRopewalk$Parcel;"⟩, 10), (⟨"Ropewalk", "payCash", "()V"⟩, 10), (⟨"Ropewalk", "putUnsortedThere", "(LRopewalk$Parcel;)V"⟩, 10), (⟨"Ropewalk", "turn", "(LRopewalk$Parcel;)V"⟩, 10), (⟨"Ropewalk", "lockerOf", "(I)LRopewalk$Locker;"⟩, 10), (⟨"Ropewalk", "parcelByCode", "(LRopewalk$Locker;I)LRopewalk$Parcel;"⟩, 10), (⟨"Ropewalk", "dueForGone", "(LRopewalk$Parcel;Z)I"⟩, 10), (⟨"Ropewalk", "dueForLate", "(LRopewalk$Parcel;)I"⟩, 10), (⟨"Ropewalk", "freeReference", "(LRopewalk$Customer;I)I"⟩, 10), (⟨"Ropewalk", "vanOf", "(I)LRopewalk$Van;"⟩, 10), (⟨"Ropewalk", "quickest", "(LRopewalk$Depot;LRopewalk$Depot;)I"⟩, 10), (⟨"Ropewalk", "foreseenFrom", "(LRopewalk$Parcel;LRopewalk$Depot;II)I"⟩, 10), (⟨"Ropewalk", "nextStart", "(LRopewalk$Depot;I)I"⟩, 10), (⟨"Ropewalk", "laneOrNull", "(I)LRopewalk$Lane;"⟩, 10), (⟨"Ropewalk", "foreseenInRow", "(LRopewalk$Parcel;LRopewalk$Lane;)I"⟩, 10), (⟨"Ropewalk", "foreseenOver", "(LRopewalk$Parcel;LRopewalk$Lane;II)I"⟩, 10)]
theorem lw_r3 : ∀ q ∈ lw_privs_3, lw_okq q := List.forall_mem_cons.mpr ⟨lw_p32, List.forall_mem_cons.mpr ⟨lw_p33, List.forall_mem_cons.mpr ⟨lw_p34, List.forall_mem_cons.mpr ⟨lw_p35, List.forall_mem_cons.mpr ⟨lw_p36, List.forall_mem_cons.mpr ⟨lw_p37, List.forall_mem_cons.mpr ⟨lw_p38, List.forall_mem_cons.mpr ⟨lw_p39, List.forall_mem_cons.mpr ⟨lw_p40, List.forall_mem_cons.mpr ⟨lw_p41, List.forall_mem_cons.mpr ⟨lw_p42, List.forall_mem_cons.mpr ⟨lw_p43, List.forall_mem_cons.mpr ⟨lw_p44, List.forall_mem_cons.mpr ⟨lw_p45, List.forall_mem_cons.mpr ⟨lw_p46, List.forall_mem_cons.mpr ⟨lw_p47, fun _ h => absurd h List.not_mem_nil⟩⟩⟩⟩⟩⟩⟩⟩⟩⟩⟩⟩⟩⟩⟩⟩
def lw_privs : List (MethodName × Nat) := lw_privs_1 ++ (lw_privs_2 ++ (lw_privs_3))
def lw_tbl : List Cond := k2_sels lw_privs ++ tables_1
theorem lw_privs_ok : ∀ q ∈ lw_privs, lw_okq q := by
  show ∀ q ∈ lw_privs_1 ++ (lw_privs_2 ++ (lw_privs_3)), lw_okq q
  exact List.forall_mem_append.mpr ⟨lw_r1, List.forall_mem_append.mpr ⟨lw_r2, lw_r3⟩⟩
-- ===== end of PART A; then your names; then what follows =====
def RX0 : String := "Ropewalk$Address"
def TX0 : u_T := fun k => match k with
  | 0 => ("Ropewalk$Address", "depot", "LRopewalk$Depot;", true)
  | 1 => ("Ropewalk$Address", "spot", "I", true)
  | 2 => ("Ropewalk$Address", "awayFrom", "I", false)
  | _ => ("Ropewalk$Address", "awayTo", "I", false)
def tyX0 : Nat → FieldType := fun k => match k with
  | 0 => .object "Ropewalk$Depot"
  | 1 => .int
  | 2 => .int
  | _ => .int
abbrev wsX00 : List Cond := u_ws RX0 TX0 4
theorem nmX0 : ∀ a, a < 4 → ∀ b, b < 4 → a ≠ b → (TX0 a).2.1 ≠ (TX0 b).2.1 := by decide +kernel
theorem tyX0_ok : ∀ k, k < 4 → parseFieldDescriptor (TX0 k).2.2.1 = some (tyX0 k) := by decide +kernel
abbrev cX0_init : ByteArray := prog_2_method_1_code
def yX0_init : MethodName := ⟨RX0, "<init>", "(LRopewalk$Depot;I)V"⟩
def RX1 : String := "Ropewalk$Customer"
def TX1 : u_T := fun k => match k with
  | 0 => ("Ropewalk$Customer", "number", "I", true)
  | _ => ("Ropewalk$Customer", "account", "I", false)
def tyX1 : Nat → FieldType := fun k => match k with
  | 0 => .int
  | _ => .int
abbrev wsX10 : List Cond := u_ws RX1 TX1 2
theorem nmX1 : ∀ a, a < 2 → ∀ b, b < 2 → a ≠ b → (TX1 a).2.1 ≠ (TX1 b).2.1 := by decide +kernel
theorem tyX1_ok : ∀ k, k < 2 → parseFieldDescriptor (TX1 k).2.2.1 = some (tyX1 k) := by decide +kernel
abbrev cX1_init : ByteArray := prog_3_method_1_code
def yX1_init : MethodName := ⟨RX1, "<init>", "(I)V"⟩
def RX2 : String := "Ropewalk$Depot"
def TX2 : u_T := fun k => match k with
  | 0 => ("Ropewalk$Depot", "number", "I", true)
  | 1 => ("Ropewalk$Depot", "unsorted", "Ljava/util/ArrayList;", true)
  | 2 => ("Ropewalk$Depot", "lanesTowards", "[LRopewalk$Lane;", true)
  | 3 => ("Ropewalk$Depot", "many", "I", false)
  | 4 => ("Ropewalk$Depot", "more", "I", false)
  | 5 => ("Ropewalk$Depot", "hiredUntil", "I", false)
  | 6 => ("Ropewalk$Depot", "blind", "I", false)
  | _ => ("Ropewalk$Depot", "stammers", "I", false)
def tyX2 : Nat → FieldType := fun k => match k with
  | 0 => .int
  | 1 => .object "java/util/ArrayList"
  | 2 => .array (.object "Ropewalk$Lane")
  | 3 => .int
  | 4 => .int
  | 5 => .int
  | 6 => .int
  | _ => .int
abbrev wsX20 : List Cond := u_ws RX2 TX2 8
theorem nmX2 : ∀ a, a < 8 → ∀ b, b < 8 → a ≠ b → (TX2 a).2.1 ≠ (TX2 b).2.1 := by decide +kernel
theorem tyX2_ok : ∀ k, k < 8 → parseFieldDescriptor (TX2 k).2.2.1 = some (tyX2 k) := by decide +kernel
abbrev cX2_init : ByteArray := prog_4_method_1_code
def yX2_init : MethodName := ⟨RX2, "<init>", "(I)V"⟩
abbrev cX2_manyAt : ByteArray := prog_4_method_2_code
def yX2_manyAt : MethodName := ⟨RX2, "manyAt", "(I)I"⟩
abbrev cX2_laneTowards : ByteArray := prog_4_method_3_code
def yX2_laneTowards : MethodName := ⟨RX2, "laneTowards", "(LRopewalk$Depot;I)LRopewalk$Lane;"⟩
abbrev cX2_setLaneTowards : ByteArray := prog_4_method_4_code
def yX2_setLaneTowards : MethodName := ⟨RX2, "setLaneTowards", "(LRopewalk$Depot;ILRopewalk$Lane;)V"⟩
def RX3 : String := "Ropewalk$Lane"
def TX3 : u_T := fun k => match k with
  | 0 => ("Ropewalk$Lane", "number", "I", true)
  | 1 => ("Ropewalk$Lane", "from", "LRopewalk$Depot;", true)
  | 2 => ("Ropewalk$Lane", "to", "LRopewalk$Depot;", true)
  | 3 => ("Ropewalk$Lane", "hours", "I", true)
  | 4 => ("Ropewalk$Lane", "crosses", "Z", true)
  | 5 => ("Ropewalk$Lane", "row", "Ljava/util/ArrayList;", true)
  | 6 => ("Ropewalk$Lane", "load", "Ljava/util/ArrayList;", true)
  | 7 => ("Ropewalk$Lane", "room", "I", false)
  | 8 => ("Ropewalk$Lane", "first", "I", false)
  | 9 => ("Ropewalk$Lane", "every", "I", false)
  | 10 => ("Ropewalk$Lane", "least", "I", false)
  | 11 => ("Ropewalk$Lane", "patience", "I", false)
  | _ => ("Ropewalk$Lane", "waitsSince", "I", false)
def tyX3 : Nat → FieldType := fun k => match k with
  | 0 => .int
  | 1 => .object "Ropewalk$Depot"
  | 2 => .object "Ropewalk$Depot"
  | 3 => .int
  | 4 => .boolean
  | 5 => .object "java/util/ArrayList"
  | 6 => .object "java/util/ArrayList"
  | 7 => .int
  | 8 => .int
  | 9 => .int
  | 10 => .int
  | 11 => .int
  | _ => .int
abbrev wsX30 : List Cond := u_ws RX3 TX3 13
theorem nmX3 : ∀ a, a < 13 → ∀ b, b < 13 → a ≠ b → (TX3 a).2.1 ≠ (TX3 b).2.1 := by decide +kernel
theorem tyX3_ok : ∀ k, k < 13 → parseFieldDescriptor (TX3 k).2.2.1 = some (tyX3 k) := by decide +kernel
abbrev cX3_init : ByteArray := prog_5_method_1_code
def yX3_init : MethodName := ⟨RX3, "<init>", "(ILRopewalk$Depot;LRopewalk$Depot;IZ)V"⟩
abbrev cX3_isDue : ByteArray := prog_5_method_2_code
def yX3_isDue : MethodName := ⟨RX3, "isDue", "(I)Z"⟩
abbrev cX3_departureFrom : ByteArray := prog_5_method_3_code
def yX3_departureFrom : MethodName := ⟨RX3, "departureFrom", "(I)I"⟩
abbrev cX3_hasEnough : ByteArray := prog_5_method_4_code
def yX3_hasEnough : MethodName := ⟨RX3, "hasEnough", "(I)Z"⟩
def RX4 : String := "Ropewalk$Locker"
def TX4 : u_T := fun k => match k with
  | 0 => ("Ropewalk$Locker", "number", "I", true)
  | 1 => ("Ropewalk$Locker", "depot", "LRopewalk$Depot;", true)
  | _ => ("Ropewalk$Locker", "free", "[I", true)
def tyX4 : Nat → FieldType := fun k => match k with
  | 0 => .int
  | 1 => .object "Ropewalk$Depot"
  | _ => .array .int
abbrev wsX40 : List Cond := u_ws RX4 TX4 3
theorem nmX4 : ∀ a, a < 3 → ∀ b, b < 3 → a ≠ b → (TX4 a).2.1 ≠ (TX4 b).2.1 := by decide +kernel
theorem tyX4_ok : ∀ k, k < 3 → parseFieldDescriptor (TX4 k).2.2.1 = some (tyX4 k) := by decide +kernel
abbrev cX4_init : ByteArray := prog_6_method_1_code
def yX4_init : MethodName := ⟨RX4, "<init>", "(ILRopewalk$Depot;III)V"⟩
abbrev cX4_freeOf : ByteArray := prog_6_method_2_code
def yX4_freeOf : MethodName := ⟨RX4, "freeOf", "(I)I"⟩
abbrev cX4_change : ByteArray := prog_6_method_3_code
def yX4_change : MethodName := ⟨RX4, "change", "(II)V"⟩
abbrev cX4_leastFree : ByteArray := prog_6_method_4_code
def yX4_leastFree : MethodName := ⟨RX4, "leastFree", "(I)I"⟩
abbrev cX4_store : ByteArray := prog_6_method_5_code
def yX4_store : MethodName := ⟨RX4, "store", "(LRopewalk$Parcel;I)V"⟩
def RX5 : String := "Ropewalk$Money"
def TX5 : u_T := fun k => match k with
  | 0 => ("Ropewalk$Money", "value", "I", false)
  | 1 => ("Ropewalk$Money", "cash", "I", false)
  | 2 => ("Ropewalk$Money", "isDutyPaid", "Z", false)
  | 3 => ("Ropewalk$Money", "paid", "I", false)
  | 4 => ("Ropewalk$Money", "isGonePaid", "Z", false)
  | _ => ("Ropewalk$Money", "cashDepot", "LRopewalk$Depot;", false)
def tyX5 : Nat → FieldType := fun k => match k with
  | 0 => .int
  | 1 => .int
  | 2 => .boolean
  | 3 => .int
  | 4 => .boolean
  | _ => .object "Ropewalk$Depot"
abbrev wsX50 : List Cond := u_ws RX5 TX5 6
theorem nmX5 : ∀ a, a < 6 → ∀ b, b < 6 → a ≠ b → (TX5 a).2.1 ≠ (TX5 b).2.1 := by decide +kernel
theorem tyX5_ok : ∀ k, k < 6 → parseFieldDescriptor (TX5 k).2.2.1 = some (tyX5 k) := by decide +kernel
abbrev cX5_init : ByteArray := prog_7_method_1_code
def yX5_init : MethodName := ⟨RX5, "<init>", "()V"⟩
abbrev cX5_dutyDue : ByteArray := prog_7_method_2_code
def yX5_dutyDue : MethodName := ⟨RX5, "dutyDue", "()I"⟩
def RX6 : String := "Ropewalk$Parcel"
def TX6 : u_T := fun k => match k with
  | 0 => ("Ropewalk$Parcel", "number", "I", true)
  | 1 => ("Ropewalk$Parcel", "sender", "LRopewalk$Address;", true)
  | 2 => ("Ropewalk$Parcel", "size", "I", true)
  | 3 => ("Ropewalk$Parcel", "isExpress", "Z", true)
  | 4 => ("Ropewalk$Parcel", "told", "I", true)
  | 5 => ("Ropewalk$Parcel", "money", "LRopewalk$Money;", true)
  | 6 => ("Ropewalk$Parcel", "stay", "LRopewalk$Stay;", true)
  | 7 => ("Ropewalk$Parcel", "scans", "Ljava/util/ArrayList;", true)
  | 8 => ("Ropewalk$Parcel", "customer", "LRopewalk$Customer;", false)
  | 9 => ("Ropewalk$Parcel", "reference", "I", false)
  | 10 => ("Ropewalk$Parcel", "receiver", "LRopewalk$Address;", false)
  | 11 => ("Ropewalk$Parcel", "doubt", "LRopewalk$Address;", false)
  | 12 => ("Ropewalk$Parcel", "windowFrom", "I", false)
  | 13 => ("Ropewalk$Parcel", "windowTo", "I", false)
  | 14 => ("Ropewalk$Parcel", "promised", "I", false)
  | 15 => ("Ropewalk$Parcel", "failures", "I", false)
  | 16 => ("Ropewalk$Parcel", "isReturn", "Z", false)
  | _ => ("Ropewalk$Parcel", "isFresh", "Z", false)
def tyX6 : Nat → FieldType := fun k => match k with
  | 0 => .int
  | 1 => .object "Ropewalk$Address"
  | 2 => .int
  | 3 => .boolean
  | 4 => .int
  | 5 => .object "Ropewalk$Money"
  | 6 => .object "Ropewalk$Stay"
  | 7 => .object "java/util/ArrayList"
  | 8 => .object "Ropewalk$Customer"
  | 9 => .int
  | 10 => .object "Ropewalk$Address"
  | 11 => .object "Ropewalk$Address"
  | 12 => .int
  | 13 => .int
  | 14 => .int
  | 15 => .int
  | 16 => .boolean
  | _ => .boolean
abbrev wsX60 : List Cond := u_ws RX6 TX6 18
theorem nmX6 : ∀ a, a < 18 → ∀ b, b < 18 → a ≠ b → (TX6 a).2.1 ≠ (TX6 b).2.1 := by decide +kernel
theorem tyX6_ok : ∀ k, k < 18 → parseFieldDescriptor (TX6 k).2.2.1 = some (tyX6 k) := by decide +kernel
abbrev cX6_init : ByteArray := prog_8_method_1_code
def yX6_init : MethodName := ⟨RX6, "<init>", "(ILRopewalk$Address;LRopewalk$Address;IZI)V"⟩
abbrev cX6_goal : ByteArray := prog_8_method_2_code
def yX6_goal : MethodName := ⟨RX6, "goal", "()LRopewalk$Address;"⟩
abbrev cX6_target : ByteArray := prog_8_method_3_code
def yX6_target : MethodName := ⟨RX6, "target", "()LRopewalk$Depot;"⟩
abbrev cX6_isAtEnd : ByteArray := prog_8_method_4_code
def yX6_isAtEnd : MethodName := ⟨RX6, "isAtEnd", "()Z"⟩
abbrev cX6_canTurn : ByteArray := prog_8_method_5_code
def yX6_canTurn : MethodName := ⟨RX6, "canTurn", "()Z"⟩
abbrev cX6_isHeldByDoubt : ByteArray := prog_8_method_6_code
def yX6_isHeldByDoubt : MethodName := ⟨RX6, "isHeldByDoubt", "()Z"⟩
abbrev cX6_isHeldByCustoms : ByteArray := prog_8_method_7_code
def yX6_isHeldByCustoms : MethodName := ⟨RX6, "isHeldByCustoms", "()Z"⟩
abbrev cX6_goesAheadOf : ByteArray := prog_8_method_8_code
def yX6_goesAheadOf : MethodName := ⟨RX6, "goesAheadOf", "(LRopewalk$Parcel;)Z"⟩
abbrev cX6_isMetAt : ByteArray := prog_8_method_9_code
def yX6_isMetAt : MethodName := ⟨RX6, "isMetAt", "(I)Z"⟩
abbrev cX6_forgetTrouble : ByteArray := prog_8_method_10_code
def yX6_forgetTrouble : MethodName := ⟨RX6, "forgetTrouble", "()V"⟩
abbrev cX6_lastScan : ByteArray := prog_8_method_11_code
def yX6_lastScan : MethodName := ⟨RX6, "lastScan", "()LRopewalk$Scan;"⟩
abbrev cX6_move : ByteArray := prog_8_method_12_code
def yX6_move : MethodName := ⟨RX6, "move", "(IILRopewalk$Depot;Ljava/util/ArrayList;I)V"⟩
def RX7 : String := "Ropewalk$Scan"
def TX7 : u_T := fun k => match k with
  | 0 => ("Ropewalk$Scan", "parcel", "I", true)
  | 1 => ("Ropewalk$Scan", "depot", "LRopewalk$Depot;", true)
  | 2 => ("Ropewalk$Scan", "clock", "I", true)
  | _ => ("Ropewalk$Scan", "kind", "I", true)
def tyX7 : Nat → FieldType := fun k => match k with
  | 0 => .int
  | 1 => .object "Ropewalk$Depot"
  | 2 => .int
  | _ => .int
abbrev wsX70 : List Cond := u_ws RX7 TX7 4
theorem nmX7 : ∀ a, a < 4 → ∀ b, b < 4 → a ≠ b → (TX7 a).2.1 ≠ (TX7 b).2.1 := by decide +kernel
theorem tyX7_ok : ∀ k, k < 4 → parseFieldDescriptor (TX7 k).2.2.1 = some (tyX7 k) := by decide +kernel
abbrev cX7_init : ByteArray := prog_9_method_1_code
def yX7_init : MethodName := ⟨RX7, "<init>", "(ILRopewalk$Depot;II)V"⟩
abbrev cX7_tellsOfStock : ByteArray := prog_9_method_2_code
def yX7_tellsOfStock : MethodName := ⟨RX7, "tellsOfStock", "()Z"⟩
def RX8 : String := "Ropewalk$Stay"
def TX8 : u_T := fun k => match k with
  | 0 => ("Ropewalk$Stay", "kind", "I", false)
  | 1 => ("Ropewalk$Stay", "number", "I", false)
  | 2 => ("Ropewalk$Stay", "since", "I", false)
  | 3 => ("Ropewalk$Stay", "depot", "LRopewalk$Depot;", false)
  | 4 => ("Ropewalk$Stay", "line", "Ljava/util/ArrayList;", false)
  | 5 => ("Ropewalk$Stay", "locker", "LRopewalk$Locker;", false)
  | 6 => ("Ropewalk$Stay", "compartment", "I", false)
  | 7 => ("Ropewalk$Stay", "code", "I", false)
  | 8 => ("Ropewalk$Stay", "isByCustoms", "Z", false)
  | _ => ("Ropewalk$Stay", "stop", "I", false)
def tyX8 : Nat → FieldType := fun k => match k with
  | 0 => .int
  | 1 => .int
  | 2 => .int
  | 3 => .object "Ropewalk$Depot"
  | 4 => .object "java/util/ArrayList"
  | 5 => .object "Ropewalk$Locker"
  | 6 => .int
  | 7 => .int
  | 8 => .boolean
  | _ => .int
abbrev wsX80 : List Cond := u_ws RX8 TX8 10
theorem nmX8 : ∀ a, a < 10 → ∀ b, b < 10 → a ≠ b → (TX8 a).2.1 ≠ (TX8 b).2.1 := by decide +kernel
theorem tyX8_ok : ∀ k, k < 10 → parseFieldDescriptor (TX8 k).2.2.1 = some (tyX8 k) := by decide +kernel
abbrev cX8_init : ByteArray := prog_10_method_1_code
def yX8_init : MethodName := ⟨RX8, "<init>", "()V"⟩
def RX9 : String := "Ropewalk$Van"
def TX9 : u_T := fun k => match k with
  | 0 => ("Ropewalk$Van", "number", "I", true)
  | 1 => ("Ropewalk$Van", "depot", "LRopewalk$Depot;", true)
  | 2 => ("Ropewalk$Van", "room", "I", true)
  | 3 => ("Ropewalk$Van", "start", "I", true)
  | 4 => ("Ropewalk$Van", "round", "Ljava/util/ArrayList;", true)
  | 5 => ("Ropewalk$Van", "begun", "I", false)
  | _ => ("Ropewalk$Van", "done", "I", false)
def tyX9 : Nat → FieldType := fun k => match k with
  | 0 => .int
  | 1 => .object "Ropewalk$Depot"
  | 2 => .int
  | 3 => .int
  | 4 => .object "java/util/ArrayList"
  | 5 => .int
  | _ => .int
abbrev wsX90 : List Cond := u_ws RX9 TX9 7
theorem nmX9 : ∀ a, a < 7 → ∀ b, b < 7 → a ≠ b → (TX9 a).2.1 ≠ (TX9 b).2.1 := by decide +kernel
theorem tyX9_ok : ∀ k, k < 7 → parseFieldDescriptor (TX9 k).2.2.1 = some (tyX9 k) := by decide +kernel
abbrev cX9_init : ByteArray := prog_11_method_1_code
def yX9_init : MethodName := ⟨RX9, "<init>", "(ILRopewalk$Depot;II)V"⟩
abbrev cX9_findStops : ByteArray := prog_11_method_2_code
def yX9_findStops : MethodName := ⟨RX9, "findStops", "()V"⟩
def RX10 : String := "Ropewalk"
def TX10 : u_T := fun k => match k with
  | 0 => ("Ropewalk", "depots", "[LRopewalk$Depot;", true)
  | 1 => ("Ropewalk", "customers", "[LRopewalk$Customer;", true)
  | 2 => ("Ropewalk", "lanes", "Ljava/util/ArrayList;", true)
  | 3 => ("Ropewalk", "addresses", "Ljava/util/ArrayList;", true)
  | 4 => ("Ropewalk", "parcels", "Ljava/util/ArrayList;", true)
  | 5 => ("Ropewalk", "vans", "Ljava/util/ArrayList;", true)
  | 6 => ("Ropewalk", "lockers", "Ljava/util/ArrayList;", true)
  | 7 => ("Ropewalk", "book", "Ljava/util/ArrayList;", true)
  | 8 => ("Ropewalk", "picked", "Ljava/util/ArrayList;", true)
  | _ => ("Ropewalk", "clock", "I", false)
def tyX10 : Nat → FieldType := fun k => match k with
  | 0 => .array (.object "Ropewalk$Depot")
  | 1 => .array (.object "Ropewalk$Customer")
  | 2 => .object "java/util/ArrayList"
  | 3 => .object "java/util/ArrayList"
  | 4 => .object "java/util/ArrayList"
  | 5 => .object "java/util/ArrayList"
  | 6 => .object "java/util/ArrayList"
  | 7 => .object "java/util/ArrayList"
  | 8 => .object "java/util/ArrayList"
  | _ => .int
abbrev wsX100 : List Cond := u_ws RX10 TX10 10
theorem nmX10 : ∀ a, a < 10 → ∀ b, b < 10 → a ≠ b → (TX10 a).2.1 ≠ (TX10 b).2.1 := by decide +kernel
theorem tyX10_ok : ∀ k, k < 10 → parseFieldDescriptor (TX10 k).2.2.1 = some (tyX10 k) := by decide +kernel
abbrev cX10_init : ByteArray := prog_1_method_1_code
def yX10_init : MethodName := ⟨RX10, "<init>", "()V"⟩
abbrev cX10_sorts : ByteArray := prog_1_method_2_code
def yX10_sorts : MethodName := ⟨RX10, "sorts", "(II)I"⟩
abbrev cX10_hire : ByteArray := prog_1_method_3_code
def yX10_hire : MethodName := ⟨RX10, "hire", "(III)I"⟩
abbrev cX10_fail : ByteArray := prog_1_method_4_code
def yX10_fail : MethodName := ⟨RX10, "fail", "(IIZ)I"⟩
abbrev cX10_lane : ByteArray := prog_1_method_5_code
def yX10_lane : MethodName := ⟨RX10, "lane", "(IIIZ)I"⟩
abbrev cX10_timetable : ByteArray := prog_1_method_6_code
def yX10_timetable : MethodName := ⟨RX10, "timetable", "(IIIIII)I"⟩
abbrev cX10_plan : ByteArray := prog_1_method_7_code
def yX10_plan : MethodName := ⟨RX10, "plan", "(IIII)I"⟩
abbrev cX10_address : ByteArray := prog_1_method_8_code
def yX10_address : MethodName := ⟨RX10, "address", "(II)I"⟩
abbrev cX10_away : ByteArray := prog_1_method_9_code
def yX10_away : MethodName := ⟨RX10, "away", "(III)I"⟩
abbrev cX10_parcel : ByteArray := prog_1_method_10_code
def yX10_parcel : MethodName := ⟨RX10, "parcel", "(IIIIIZ)I"⟩
abbrev cX10_worth : ByteArray := prog_1_method_11_code
def yX10_worth : MethodName := ⟨RX10, "worth", "(III)I"⟩
abbrev cX10_promise : ByteArray := prog_1_method_12_code
def yX10_promise : MethodName := ⟨RX10, "promise", "(IIII)I"⟩
abbrev cX10_doubt : ByteArray := prog_1_method_13_code
def yX10_doubt : MethodName := ⟨RX10, "doubt", "(II)Z"⟩
abbrev cX10_van : ByteArray := prog_1_method_14_code
def yX10_van : MethodName := ⟨RX10, "van", "(III)I"⟩
abbrev cX10_locker : ByteArray := prog_1_method_15_code
def yX10_locker : MethodName := ⟨RX10, "locker", "(IIII)I"⟩
abbrev cX10_hour : ByteArray := prog_1_method_16_code
def yX10_hour : MethodName := ⟨RX10, "hour", "(I)I"⟩
abbrev cX10_resolve : ByteArray := prog_1_method_17_code
def yX10_resolve : MethodName := ⟨RX10, "resolve", "(IZ)I"⟩
abbrev cX10_duty : ByteArray := prog_1_method_18_code
def yX10_duty : MethodName := ⟨RX10, "duty", "(I)I"⟩
abbrev cX10_forward : ByteArray := prog_1_method_19_code
def yX10_forward : MethodName := ⟨RX10, "forward", "(II)I"⟩
abbrev cX10_giveBack : ByteArray := prog_1_method_20_code
def yX10_giveBack : MethodName := ⟨RX10, "giveBack", "(I)I"⟩
abbrev cX10_lose : ByteArray := prog_1_method_21_code
def yX10_lose : MethodName := ⟨RX10, "lose", "(I)I"⟩
abbrev cX10_find : ByteArray := prog_1_method_22_code
def yX10_find : MethodName := ⟨RX10, "find", "(II)I"⟩
abbrev cX10_fetch : ByteArray := prog_1_method_23_code
def yX10_fetch : MethodName := ⟨RX10, "fetch", "(II)I"⟩
abbrev cX10_claim : ByteArray := prog_1_method_24_code
def yX10_claim : MethodName := ⟨RX10, "claim", "(IIZ)I"⟩
abbrev cX10_merge : ByteArray := prog_1_method_25_code
def yX10_merge : MethodName := ⟨RX10, "merge", "(II)I"⟩
abbrev cX10_clock : ByteArray := prog_1_method_26_code
def yX10_clock : MethodName := ⟨RX10, "clock", "()I"⟩
abbrev cX10_where : ByteArray := prog_1_method_27_code
def yX10_where : MethodName := ⟨RX10, "where", "(I)I"⟩
abbrev cX10_at : ByteArray := prog_1_method_28_code
def yX10_at : MethodName := ⟨RX10, "at", "(I)I"⟩
abbrev cX10_part : ByteArray := prog_1_method_29_code
def yX10_part : MethodName := ⟨RX10, "part", "(II)I"⟩
abbrev cX10_count : ByteArray := prog_1_method_30_code
def yX10_count : MethodName := ⟨RX10, "count", "(I)I"⟩
abbrev cX10_place : ByteArray := prog_1_method_31_code
def yX10_place : MethodName := ⟨RX10, "place", "(I)I"⟩
abbrev cX10_waits : ByteArray := prog_1_method_32_code
def yX10_waits : MethodName := ⟨RX10, "waits", "(I)I"⟩
abbrev cX10_onLane : ByteArray := prog_1_method_33_code
def yX10_onLane : MethodName := ⟨RX10, "onLane", "(I)I"⟩
abbrev cX10_onVan : ByteArray := prog_1_method_34_code
def yX10_onVan : MethodName := ⟨RX10, "onVan", "(I)I"⟩
abbrev cX10_free : ByteArray := prog_1_method_35_code
def yX10_free : MethodName := ⟨RX10, "free", "(II)I"⟩
abbrev cX10_account : ByteArray := prog_1_method_36_code
def yX10_account : MethodName := ⟨RX10, "account", "(I)I"⟩
abbrev cX10_cash : ByteArray := prog_1_method_37_code
def yX10_cash : MethodName := ⟨RX10, "cash", "(I)I"⟩
abbrev cX10_scans : ByteArray := prog_1_method_38_code
def yX10_scans : MethodName := ⟨RX10, "scans", "()I"⟩
abbrev cX10_scan : ByteArray := prog_1_method_39_code
def yX10_scan : MethodName := ⟨RX10, "scan", "(II)I"⟩
abbrev cX10_way : ByteArray := prog_1_method_40_code
def yX10_way : MethodName := ⟨RX10, "way", "(II)I"⟩
abbrev cX10_wrong : ByteArray := prog_1_method_41_code
def yX10_wrong : MethodName := ⟨RX10, "wrong", "(I)I"⟩
abbrev cX10_stock : ByteArray := prog_1_method_42_code
def yX10_stock : MethodName := ⟨RX10, "stock", "(I)I"⟩
abbrev cX10_stockByScans : ByteArray := prog_1_method_43_code
def yX10_stockByScans : MethodName := ⟨RX10, "stockByScans", "(I)I"⟩
abbrev cX10_foreseen : ByteArray := prog_1_method_44_code
def yX10_foreseen : MethodName := ⟨RX10, "foreseen", "(I)I"⟩
abbrev cX10_bringTrailers : ByteArray := prog_1_method_45_code
def yX10_bringTrailers : MethodName := ⟨RX10, "bringTrailers", "()V"⟩
abbrev cX10_bring : ByteArray := prog_1_method_46_code
def yX10_bring : MethodName := ⟨RX10, "bring", "(LRopewalk$Parcel;LRopewalk$Lane;)V"⟩
abbrev cX10_emptyLockers : ByteArray := prog_1_method_47_code
def yX10_emptyLockers : MethodName := ⟨RX10, "emptyLockers", "()V"⟩
abbrev cX10_sortEverywhere : ByteArray := prog_1_method_48_code
def yX10_sortEverywhere : MethodName := ⟨RX10, "sortEverywhere", "()V"⟩
abbrev cX10_sortOne : ByteArray := prog_1_method_49_code
def yX10_sortOne : MethodName := ⟨RX10, "sortOne", "(LRopewalk$Parcel;LRopewalk$Depot;)V"⟩
abbrev cX10_sendTrailers : ByteArray := prog_1_method_50_code
def yX10_sendTrailers : MethodName := ⟨RX10, "sendTrailers", "()V"⟩
abbrev cX10_load : ByteArray := prog_1_method_51_code
def yX10_load : MethodName := ⟨RX10, "load", "(LRopewalk$Lane;)V"⟩
abbrev cX10_pickExpressFirst : ByteArray := prog_1_method_52_code
def yX10_pickExpressFirst : MethodName := ⟨RX10, "pickExpressFirst", "(Ljava/util/ArrayList;)V"⟩
abbrev cX10_addThose : ByteArray := prog_1_method_53_code
def yX10_addThose : MethodName := ⟨RX10, "addThose", "(Ljava/util/ArrayList;Z)V"⟩
abbrev cX10_payCash : ByteArray := prog_1_method_54_code
def yX10_payCash : MethodName := ⟨RX10, "payCash", "()V"⟩
abbrev cX10_driveVans : ByteArray := prog_1_method_55_code
def yX10_driveVans : MethodName := ⟨RX10, "driveVans", "()I"⟩
abbrev cX10_beginRound : ByteArray := prog_1_method_56_code
def yX10_beginRound : MethodName := ⟨RX10, "beginRound", "(LRopewalk$Van;)V"⟩
abbrev cX10_nextForRound : ByteArray := prog_1_method_57_code
def yX10_nextForRound : MethodName := ⟨RX10, "nextForRound", "(LRopewalk$Depot;I)LRopewalk$Parcel;"⟩
abbrev cX10_doStops : ByteArray := prog_1_method_58_code
def yX10_doStops : MethodName := ⟨RX10, "doStops", "(LRopewalk$Van;)I"⟩
abbrev cX10_endRound : ByteArray := prog_1_method_59_code
def yX10_endRound : MethodName := ⟨RX10, "endRound", "(LRopewalk$Van;)V"⟩
abbrev cX10_bringBack : ByteArray := prog_1_method_60_code
def yX10_bringBack : MethodName := ⟨RX10, "bringBack", "(LRopewalk$Parcel;LRopewalk$Depot;)V"⟩
abbrev cX10_lockerWithRoom : ByteArray := prog_1_method_61_code
def yX10_lockerWithRoom : MethodName := ⟨RX10, "lockerWithRoom", "(LRopewalk$Depot;I)LRopewalk$Locker;"⟩
abbrev cX10_putUnsorted : ByteArray := prog_1_method_62_code
def yX10_putUnsorted : MethodName := ⟨RX10, "putUnsorted", "(LRopewalk$Parcel;LRopewalk$Depot;)V"⟩
abbrev cX10_putUnsortedThere : ByteArray := prog_1_method_63_code
def yX10_putUnsortedThere : MethodName := ⟨RX10, "putUnsortedThere", "(LRopewalk$Parcel;)V"⟩
abbrev cX10_putReady : ByteArray := prog_1_method_64_code
def yX10_putReady : MethodName := ⟨RX10, "putReady", "(LRopewalk$Parcel;LRopewalk$Depot;)V"⟩
abbrev cX10_hold : ByteArray := prog_1_method_65_code
def yX10_hold : MethodName := ⟨RX10, "hold", "(LRopewalk$Parcel;LRopewalk$Depot;Z)V"⟩
abbrev cX10_handOver : ByteArray := prog_1_method_66_code
def yX10_handOver : MethodName := ⟨RX10, "handOver", "(LRopewalk$Parcel;)V"⟩
abbrev cX10_sendBack : ByteArray := prog_1_method_67_code
def yX10_sendBack : MethodName := ⟨RX10, "sendBack", "(LRopewalk$Parcel;LRopewalk$Depot;)V"⟩
abbrev cX10_turn : ByteArray := prog_1_method_68_code
def yX10_turn : MethodName := ⟨RX10, "turn", "(LRopewalk$Parcel;)V"⟩
abbrev cX10_note : ByteArray := prog_1_method_69_code
def yX10_note : MethodName := ⟨RX10, "note", "(LRopewalk$Parcel;LRopewalk$Depot;I)V"⟩
abbrev cX10_dueForGone : ByteArray := prog_1_method_70_code
def yX10_dueForGone : MethodName := ⟨RX10, "dueForGone", "(LRopewalk$Parcel;Z)I"⟩
abbrev cX10_dueForLate : ByteArray := prog_1_method_71_code
def yX10_dueForLate : MethodName := ⟨RX10, "dueForLate", "(LRopewalk$Parcel;)I"⟩
abbrev cX10_hasReference : ByteArray := prog_1_method_72_code
def yX10_hasReference : MethodName := ⟨RX10, "hasReference", "(LRopewalk$Customer;I)Z"⟩
abbrev cX10_freeReference : ByteArray := prog_1_method_73_code
def yX10_freeReference : MethodName := ⟨RX10, "freeReference", "(LRopewalk$Customer;I)I"⟩
abbrev cX10_parcelByCode : ByteArray := prog_1_method_74_code
def yX10_parcelByCode : MethodName := ⟨RX10, "parcelByCode", "(LRopewalk$Locker;I)LRopewalk$Parcel;"⟩
abbrev cX10_quickest : ByteArray := prog_1_method_75_code
def yX10_quickest : MethodName := ⟨RX10, "quickest", "(LRopewalk$Depot;LRopewalk$Depot;)I"⟩
abbrev cX10_foreseenInRow : ByteArray := prog_1_method_76_code
def yX10_foreseenInRow : MethodName := ⟨RX10, "foreseenInRow", "(LRopewalk$Parcel;LRopewalk$Lane;)I"⟩
abbrev cX10_foreseenOver : ByteArray := prog_1_method_77_code
def yX10_foreseenOver : MethodName := ⟨RX10, "foreseenOver", "(LRopewalk$Parcel;LRopewalk$Lane;II)I"⟩
abbrev cX10_foreseenFrom : ByteArray := prog_1_method_78_code
def yX10_foreseenFrom : MethodName := ⟨RX10, "foreseenFrom", "(LRopewalk$Parcel;LRopewalk$Depot;II)I"⟩
abbrev cX10_nextStart : ByteArray := prog_1_method_79_code
def yX10_nextStart : MethodName := ⟨RX10, "nextStart", "(LRopewalk$Depot;I)I"⟩
abbrev cX10_isStoppedOn : ByteArray := prog_1_method_80_code
def yX10_isStoppedOn : MethodName := ⟨RX10, "isStoppedOn", "(LRopewalk$Lane;LRopewalk$Parcel;)Z"⟩
abbrev cX10_halfOf : ByteArray := prog_1_method_81_code
def yX10_halfOf : MethodName := ⟨RX10, "halfOf", "(I)I"⟩
abbrev cX10_indexIn : ByteArray := prog_1_method_82_code
def yX10_indexIn : MethodName := ⟨RX10, "indexIn", "(Ljava/util/ArrayList;LRopewalk$Parcel;)I"⟩
abbrev cX10_isWithin : ByteArray := prog_1_method_83_code
def yX10_isWithin : MethodName := ⟨RX10, "isWithin", "(III)Z"⟩
abbrev cX10_checkIndex : ByteArray := prog_1_method_84_code
def yX10_checkIndex : MethodName := ⟨RX10, "checkIndex", "(Z)V"⟩
abbrev cX10_checkArgument : ByteArray := prog_1_method_85_code
def yX10_checkArgument : MethodName := ⟨RX10, "checkArgument", "(Z)V"⟩
abbrev cX10_checkState : ByteArray := prog_1_method_86_code
def yX10_checkState : MethodName := ⟨RX10, "checkState", "(Z)V"⟩
abbrev cX10_depotOf : ByteArray := prog_1_method_87_code
def yX10_depotOf : MethodName := ⟨RX10, "depotOf", "(I)LRopewalk$Depot;"⟩
abbrev cX10_customerOf : ByteArray := prog_1_method_88_code
def yX10_customerOf : MethodName := ⟨RX10, "customerOf", "(I)LRopewalk$Customer;"⟩
abbrev cX10_laneOf : ByteArray := prog_1_method_89_code
def yX10_laneOf : MethodName := ⟨RX10, "laneOf", "(I)LRopewalk$Lane;"⟩
abbrev cX10_laneOrNull : ByteArray := prog_1_method_90_code
def yX10_laneOrNull : MethodName := ⟨RX10, "laneOrNull", "(I)LRopewalk$Lane;"⟩
abbrev cX10_addressOf : ByteArray := prog_1_method_91_code
def yX10_addressOf : MethodName := ⟨RX10, "addressOf", "(I)LRopewalk$Address;"⟩
abbrev cX10_parcelOf : ByteArray := prog_1_method_92_code
def yX10_parcelOf : MethodName := ⟨RX10, "parcelOf", "(I)LRopewalk$Parcel;"⟩
abbrev cX10_vanOf : ByteArray := prog_1_method_93_code
def yX10_vanOf : MethodName := ⟨RX10, "vanOf", "(I)LRopewalk$Van;"⟩
abbrev cX10_lockerOf : ByteArray := prog_1_method_94_code
def yX10_lockerOf : MethodName := ⟨RX10, "lockerOf", "(I)LRopewalk$Locker;"⟩
def RX11 : String := "RopewalkModel"
def TX11 : u_T := fun k => match k with
  | _ => ("", "", "", false)
def tyX11 : Nat → FieldType := fun k => match k with
  | _ => .int
abbrev wsX110 : List Cond := u_ws RX11 TX11 0
theorem nmX11 : ∀ a, a < 0 → ∀ b, b < 0 → a ≠ b → (TX11 a).2.1 ≠ (TX11 b).2.1 := by decide +kernel
theorem tyX11_ok : ∀ k, k < 0 → parseFieldDescriptor (TX11 k).2.2.1 = some (tyX11 k) := by decide +kernel
def RJx145de : String := "java/io/Serializable"
def TJx145de : u_T := fun k => match k with
  | _ => ("", "", "", false)
def tyJx145de : Nat → FieldType := fun k => match k with
  | _ => .int
abbrev wsJx145de0 : List Cond := u_ws RJx145de TJx145de 0
theorem nmJx145de : ∀ a, a < 0 → ∀ b, b < 0 → a ≠ b → (TJx145de a).2.1 ≠ (TJx145de b).2.1 := by decide +kernel
theorem tyJx145de_ok : ∀ k, k < 0 → parseFieldDescriptor (TJx145de k).2.2.1 = some (tyJx145de k) := by decide +kernel
def RJx8e188 : String := "java/lang/Cloneable"
def TJx8e188 : u_T := fun k => match k with
  | _ => ("", "", "", false)
def tyJx8e188 : Nat → FieldType := fun k => match k with
  | _ => .int
abbrev wsJx8e1880 : List Cond := u_ws RJx8e188 TJx8e188 0
theorem nmJx8e188 : ∀ a, a < 0 → ∀ b, b < 0 → a ≠ b → (TJx8e188 a).2.1 ≠ (TJx8e188 b).2.1 := by decide +kernel
theorem tyJx8e188_ok : ∀ k, k < 0 → parseFieldDescriptor (TJx8e188 k).2.2.1 = some (tyJx8e188 k) := by decide +kernel
def RJxab1ab : String := "java/lang/Iterable"
def TJxab1ab : u_T := fun k => match k with
  | _ => ("", "", "", false)
def tyJxab1ab : Nat → FieldType := fun k => match k with
  | _ => .int
abbrev wsJxab1ab0 : List Cond := u_ws RJxab1ab TJxab1ab 0
theorem nmJxab1ab : ∀ a, a < 0 → ∀ b, b < 0 → a ≠ b → (TJxab1ab a).2.1 ≠ (TJxab1ab b).2.1 := by decide +kernel
theorem tyJxab1ab_ok : ∀ k, k < 0 → parseFieldDescriptor (TJxab1ab k).2.2.1 = some (tyJxab1ab k) := by decide +kernel
def RJ9 : String := "java/lang/Math"
def TJ9 : u_T := fun k => match k with
  | _ => ("", "", "", false)
def tyJ9 : Nat → FieldType := fun k => match k with
  | _ => .int
abbrev wsJ90 : List Cond := u_ws RJ9 TJ9 0
theorem nmJ9 : ∀ a, a < 0 → ∀ b, b < 0 → a ≠ b → (TJ9 a).2.1 ≠ (TJ9 b).2.1 := by decide +kernel
theorem tyJ9_ok : ∀ k, k < 0 → parseFieldDescriptor (TJ9 k).2.2.1 = some (tyJ9 k) := by decide +kernel
abbrev cJ9_floorMod_7cf53 : ByteArray := prog_21_method_50_code
def yJ9_floorMod_7cf53 : MethodName := ⟨RJ9, "floorMod", "(II)I"⟩
abbrev cJ9_abs_0f7a4 : ByteArray := prog_21_method_59_code
def yJ9_abs_0f7a4 : MethodName := ⟨RJ9, "abs", "(I)I"⟩
abbrev cJ9_max_7cf53 : ByteArray := prog_21_method_65_code
def yJ9_max_7cf53 : MethodName := ⟨RJ9, "max", "(II)I"⟩
abbrev cJ9_min_7cf53 : ByteArray := prog_21_method_69_code
def yJ9_min_7cf53 : MethodName := ⟨RJ9, "min", "(II)I"⟩
def RJ10 : String := "java/lang/System"
def TJ10 : u_T := fun k => match k with
  | _ => ("", "", "", false)
def tyJ10 : Nat → FieldType := fun k => match k with
  | _ => .int
abbrev wsJ100 : List Cond := u_ws RJ10 TJ10 0
theorem nmJ10 : ∀ a, a < 0 → ∀ b, b < 0 → a ≠ b → (TJ10 a).2.1 ≠ (TJ10 b).2.1 := by decide +kernel
theorem tyJ10_ok : ∀ k, k < 0 → parseFieldDescriptor (TJ10 k).2.2.1 = some (tyJ10 k) := by decide +kernel
def RJxa1e45 : String := "java/util/AbstractCollection"
def TJxa1e45 : u_T := fun k => match k with
  | _ => ("", "", "", false)
def tyJxa1e45 : Nat → FieldType := fun k => match k with
  | _ => .int
abbrev wsJxa1e450 : List Cond := u_ws RJxa1e45 TJxa1e45 0
theorem nmJxa1e45 : ∀ a, a < 0 → ∀ b, b < 0 → a ≠ b → (TJxa1e45 a).2.1 ≠ (TJxa1e45 b).2.1 := by decide +kernel
theorem tyJxa1e45_ok : ∀ k, k < 0 → parseFieldDescriptor (TJxa1e45 k).2.2.1 = some (tyJxa1e45 k) := by decide +kernel
abbrev cJxa1e45_init_da8c8 : ByteArray := prog_25_method_1_code
def yJxa1e45_init_da8c8 : MethodName := ⟨RJxa1e45, "<init>", "()V"⟩
def RJxc12de : String := "java/util/AbstractList"
def TJxc12de : u_T := fun k => match k with
  | _ => ("", "", "", false)
def tyJxc12de : Nat → FieldType := fun k => match k with
  | _ => .int
abbrev wsJxc12de0 : List Cond := u_ws RJxc12de TJxc12de 0
theorem nmJxc12de : ∀ a, a < 0 → ∀ b, b < 0 → a ≠ b → (TJxc12de a).2.1 ≠ (TJxc12de b).2.1 := by decide +kernel
theorem tyJxc12de_ok : ∀ k, k < 0 → parseFieldDescriptor (TJxc12de k).2.2.1 = some (tyJxc12de k) := by decide +kernel
abbrev cJxc12de_init_da8c8 : ByteArray := prog_26_method_1_code
def yJxc12de_init_da8c8 : MethodName := ⟨RJxc12de, "<init>", "()V"⟩
def RJx4a65c : String := "java/util/ArrayList"
def TJx4a65c : u_T := fun k => match k with
  | 0 => ("java/util/AbstractList", "modCount", "I", false)
  | 1 => ("java/util/ArrayList", "elementData", "[Ljava/lang/Object;", false)
  | _ => ("java/util/ArrayList", "size", "I", false)
def tyJx4a65c : Nat → FieldType := fun k => match k with
  | 0 => .int
  | 1 => .array (.object "java/lang/Object")
  | _ => .int
abbrev wsJx4a65c0 : List Cond := u_ws RJx4a65c TJx4a65c 3
theorem nmJx4a65c : ∀ a, a < 3 → ∀ b, b < 3 → a ≠ b → (TJx4a65c a).2.1 ≠ (TJx4a65c b).2.1 := by decide +kernel
theorem tyJx4a65c_ok : ∀ k, k < 3 → parseFieldDescriptor (TJx4a65c k).2.2.1 = some (tyJx4a65c k) := by decide +kernel
abbrev cJx4a65c_init_da8c8 : ByteArray := prog_27_method_2_code
def yJx4a65c_init_da8c8 : MethodName := ⟨RJx4a65c, "<init>", "()V"⟩
abbrev cJx4a65c_grow_92f84 : ByteArray := prog_27_method_6_code
def yJx4a65c_grow_92f84 : MethodName := ⟨RJx4a65c, "grow", "(I)[Ljava/lang/Object;"⟩
abbrev cJx4a65c_grow_d5877 : ByteArray := prog_27_method_7_code
def yJx4a65c_grow_d5877 : MethodName := ⟨RJx4a65c, "grow", "()[Ljava/lang/Object;"⟩
abbrev cJx4a65c_size_8abf5 : ByteArray := prog_27_method_8_code
def yJx4a65c_size_8abf5 : MethodName := ⟨RJx4a65c, "size", "()I"⟩
abbrev cJx4a65c_isEmpty_aae02 : ByteArray := prog_27_method_9_code
def yJx4a65c_isEmpty_aae02 : MethodName := ⟨RJx4a65c, "isEmpty", "()Z"⟩
abbrev cJx4a65c_elementData_915e3 : ByteArray := prog_27_method_18_code
def yJx4a65c_elementData_915e3 : MethodName := ⟨RJx4a65c, "elementData", "(I)Ljava/lang/Object;"⟩
abbrev cJx4a65c_get_915e3 : ByteArray := prog_27_method_20_code
def yJx4a65c_get_915e3 : MethodName := ⟨RJx4a65c, "get", "(I)Ljava/lang/Object;"⟩
abbrev cJx4a65c_add_72be8 : ByteArray := prog_27_method_24_code
def yJx4a65c_add_72be8 : MethodName := ⟨RJx4a65c, "add", "(Ljava/lang/Object;[Ljava/lang/Object;I)V"⟩
abbrev cJx4a65c_add_9ea2d : ByteArray := prog_27_method_25_code
def yJx4a65c_add_9ea2d : MethodName := ⟨RJx4a65c, "add", "(Ljava/lang/Object;)Z"⟩
abbrev cJx4a65c_remove_915e3 : ByteArray := prog_27_method_29_code
def yJx4a65c_remove_915e3 : MethodName := ⟨RJx4a65c, "remove", "(I)Ljava/lang/Object;"⟩
abbrev cJx4a65c_fastRemove_b59b0 : ByteArray := prog_27_method_39_code
def yJx4a65c_fastRemove_b59b0 : MethodName := ⟨RJx4a65c, "fastRemove", "([Ljava/lang/Object;I)V"⟩
abbrev cJx4a65c_clear_da8c8 : ByteArray := prog_27_method_40_code
def yJx4a65c_clear_da8c8 : MethodName := ⟨RJx4a65c, "clear", "()V"⟩
def RJ7 : String := "java/util/Arrays"
def TJ7 : u_T := fun k => match k with
  | _ => ("", "", "", false)
def tyJ7 : Nat → FieldType := fun k => match k with
  | _ => .int
abbrev wsJ70 : List Cond := u_ws RJ7 TJ7 0
theorem nmJ7 : ∀ a, a < 0 → ∀ b, b < 0 → a ≠ b → (TJ7 a).2.1 ≠ (TJ7 b).2.1 := by decide +kernel
theorem tyJ7_ok : ∀ k, k < 0 → parseFieldDescriptor (TJ7 k).2.2.1 = some (tyJ7 k) := by decide +kernel
abbrev cJ7_copyOf_1904c : ByteArray := prog_28_method_119_code
def yJ7_copyOf_1904c : MethodName := ⟨RJ7, "copyOf", "([Ljava/lang/Object;I)[Ljava/lang/Object;"⟩
abbrev cJ7_copyOf_6403c : ByteArray := prog_28_method_120_code
def yJ7_copyOf_6403c : MethodName := ⟨RJ7, "copyOf", "([Ljava/lang/Object;ILjava/lang/Class;)[Ljava/lang/Object;"⟩
def RJx5ef63 : String := "java/util/Collection"
def TJx5ef63 : u_T := fun k => match k with
  | _ => ("", "", "", false)
def tyJx5ef63 : Nat → FieldType := fun k => match k with
  | _ => .int
abbrev wsJx5ef630 : List Cond := u_ws RJx5ef63 TJx5ef63 0
theorem nmJx5ef63 : ∀ a, a < 0 → ∀ b, b < 0 → a ≠ b → (TJx5ef63 a).2.1 ≠ (TJx5ef63 b).2.1 := by decide +kernel
theorem tyJx5ef63_ok : ∀ k, k < 0 → parseFieldDescriptor (TJx5ef63 k).2.2.1 = some (tyJx5ef63 k) := by decide +kernel
def RJxbd725 : String := "java/util/List"
def TJxbd725 : u_T := fun k => match k with
  | _ => ("", "", "", false)
def tyJxbd725 : Nat → FieldType := fun k => match k with
  | _ => .int
abbrev wsJxbd7250 : List Cond := u_ws RJxbd725 TJxbd725 0
theorem nmJxbd725 : ∀ a, a < 0 → ∀ b, b < 0 → a ≠ b → (TJxbd725 a).2.1 ≠ (TJxbd725 b).2.1 := by decide +kernel
theorem tyJxbd725_ok : ∀ k, k < 0 → parseFieldDescriptor (TJxbd725 k).2.2.1 = some (tyJxbd725 k) := by decide +kernel
def RJ15 : String := "java/util/Objects"
def TJ15 : u_T := fun k => match k with
  | _ => ("", "", "", false)
def tyJ15 : Nat → FieldType := fun k => match k with
  | _ => .int
abbrev wsJ150 : List Cond := u_ws RJ15 TJ15 0
theorem nmJ15 : ∀ a, a < 0 → ∀ b, b < 0 → a ≠ b → (TJ15 a).2.1 ≠ (TJ15 b).2.1 := by decide +kernel
theorem tyJ15_ok : ∀ k, k < 0 → parseFieldDescriptor (TJ15 k).2.2.1 = some (tyJ15 k) := by decide +kernel
abbrev cJ15_checkIndex_7cf53 : ByteArray := prog_31_method_17_code
def yJ15_checkIndex_7cf53 : MethodName := ⟨RJ15, "checkIndex", "(II)I"⟩
def RJxf0a74 : String := "java/util/RandomAccess"
def TJxf0a74 : u_T := fun k => match k with
  | _ => ("", "", "", false)
def tyJxf0a74 : Nat → FieldType := fun k => match k with
  | _ => .int
abbrev wsJxf0a740 : List Cond := u_ws RJxf0a74 TJxf0a74 0
theorem nmJxf0a74 : ∀ a, a < 0 → ∀ b, b < 0 → a ≠ b → (TJxf0a74 a).2.1 ≠ (TJxf0a74 b).2.1 := by decide +kernel
theorem tyJxf0a74_ok : ∀ k, k < 0 → parseFieldDescriptor (TJxf0a74 k).2.2.1 = some (tyJxf0a74 k) := by decide +kernel
def RJxa66e6 : String := "java/util/SequencedCollection"
def TJxa66e6 : u_T := fun k => match k with
  | _ => ("", "", "", false)
def tyJxa66e6 : Nat → FieldType := fun k => match k with
  | _ => .int
abbrev wsJxa66e60 : List Cond := u_ws RJxa66e6 TJxa66e6 0
theorem nmJxa66e6 : ∀ a, a < 0 → ∀ b, b < 0 → a ≠ b → (TJxa66e6 a).2.1 ≠ (TJxa66e6 b).2.1 := by decide +kernel
theorem tyJxa66e6_ok : ∀ k, k < 0 → parseFieldDescriptor (TJxa66e6 k).2.2.1 = some (tyJxa66e6 k) := by decide +kernel
def RJ8 : String := "jdk/internal/util/ArraysSupport"
def TJ8 : u_T := fun k => match k with
  | _ => ("", "", "", false)
def tyJ8 : Nat → FieldType := fun k => match k with
  | _ => .int
abbrev wsJ80 : List Cond := u_ws RJ8 TJ8 0
theorem nmJ8 : ∀ a, a < 0 → ∀ b, b < 0 → a ≠ b → (TJ8 a).2.1 ≠ (TJ8 b).2.1 := by decide +kernel
theorem tyJ8_ok : ∀ k, k < 0 → parseFieldDescriptor (TJ8 k).2.2.1 = some (tyJ8 k) := by decide +kernel
abbrev cJ8_newLength_cabcc : ByteArray := prog_34_method_27_code
def yJ8_newLength_cabcc : MethodName := ⟨RJ8, "newLength", "(III)I"⟩
abbrev cJ8_hugeLength_7cf53 : ByteArray := prog_34_method_28_code
def yJ8_hugeLength_7cf53 : MethodName := ⟨RJ8, "hugeLength", "(II)I"⟩
def RJ3 : String := "jdk/internal/util/Preconditions"
def TJ3 : u_T := fun k => match k with
  | _ => ("", "", "", false)
def tyJ3 : Nat → FieldType := fun k => match k with
  | _ => .int
abbrev wsJ30 : List Cond := u_ws RJ3 TJ3 0
theorem nmJ3 : ∀ a, a < 0 → ∀ b, b < 0 → a ≠ b → (TJ3 a).2.1 ≠ (TJ3 b).2.1 := by decide +kernel
theorem tyJ3_ok : ∀ k, k < 0 → parseFieldDescriptor (TJ3 k).2.2.1 = some (tyJ3 k) := by decide +kernel
abbrev cJ3_checkIndex_8e157 : ByteArray := prog_35_method_11_code
def yJ3_checkIndex_8e157 : MethodName := ⟨RJ3, "checkIndex", "(IILjava/util/function/BiFunction;)I"⟩
def RL : String := "RopewalkLaw"
abbrev cL_part : ByteArray := method_2_code
def yL_part : MethodName := ⟨RL, "part", "([III)I"⟩
abbrev cL_does : ByteArray := method_3_code
def yL_does : MethodName := ⟨RL, "does", "(LRopewalk;IIIIIII)I"⟩
abbrev cL_asks : ByteArray := method_4_code
def yL_asks : MethodName := ⟨RL, "asks", "(LRopewalk;III)I"⟩
abbrev cL_arePlaces : ByteArray := method_5_code
def yL_arePlaces : MethodName := ⟨RL, "arePlaces", "(LRopewalk;[I[I[I[I[I)Z"⟩
abbrev cL_hasLane : ByteArray := method_6_code
def yL_hasLane : MethodName := ⟨RL, "hasLane", "([I[IIII)Z"⟩
abbrev cL_areScans : ByteArray := method_7_code
def yL_areScans : MethodName := ⟨RL, "areScans", "(LRopewalk;[I[II[I)Z"⟩
abbrev cL_isForeseen : ByteArray := method_8_code
def yL_isForeseen : MethodName := ⟨RL, "isForeseen", "(LRopewalk;[I[I[II)Z"⟩
abbrev cL_isNet : ByteArray := method_9_code
def yL_isNet : MethodName := ⟨RL, "isNet", "(LRopewalk;[I[I[I[I[IIII)Z"⟩
abbrev cL_isParcel : ByteArray := method_10_code
def yL_isParcel : MethodName := ⟨RL, "isParcel", "(LRopewalk;[III)Z"⟩
abbrev cL_isChanged : ByteArray := method_11_code
def yL_isChanged : MethodName := ⟨RL, "isChanged", "(LRopewalk;[I[I[I[IIII)Z"⟩
abbrev cL_law : ByteArray := code
def yL_law : MethodName := ⟨RL, "law", "([I)Z"⟩
abbrev vwCl : List vw_C := [(RJx4a65c, TJx4a65c, 3), (RX0, TX0, 4), (RX1, TX1, 2), (RX2, TX2, 8), (RX3, TX3, 13), (RX4, TX4, 3), (RX5, TX5, 6), (RX6, TX6, 18), (RX7, TX7, 4), (RX8, TX8, 10), (RX9, TX9, 7), (RX10, TX10, 10)]
