section
-- ===== PART A: goes FIRST, ahead of the names: the tables' words, and 'selects' of the private methods out of them =====
/-- a private method of a class that the tables say can be made, by its rows of tables_1 -/
def lw_okq (q : MethodName × Nat) : Prop := (q.1.cls ≠ "java/lang/invoke/MethodHandle" ∧ q.1.cls ≠ "java/lang/invoke/VarHandle") ∧ Cond.instantiable q.1.cls q.2 ∈ tables_1 ∧ Cond.privateMethod q.1 ∈ tables_1 ∧ Cond.instanceMethod q.1 ∈ tables_1
theorem lw_p0 : lw_okq (⟨"Candleford", "hasPost", "(LCandleford$House;)Z"⟩, 13) := ⟨⟨by decide +kernel, by decide +kernel⟩, List.mem_of_getElem? (i := 32) (by decide +kernel), List.mem_of_getElem? (i := 213) (by decide +kernel), List.mem_of_getElem? (i := 214) (by decide +kernel)⟩
theorem lw_p1 : lw_okq (⟨"Candleford", "isLight", "(LCandleford$Parcel;)Z"⟩, 13) := ⟨⟨by decide +kernel, by decide +kernel⟩, List.mem_of_getElem? (i := 32) (by decide +kernel), List.mem_of_getElem? (i := 218) (by decide +kernel), List.mem_of_getElem? (i := 219) (by decide +kernel)⟩
theorem lw_p2 : lw_okq (⟨"java/lang/Throwable", "fillInStackTrace", "(I)Ljava/lang/Throwable;"⟩, 6) := ⟨⟨by decide +kernel, by decide +kernel⟩, List.mem_of_getElem? (i := 300) (by decide +kernel), List.mem_of_getElem? (i := 298) (by decide +kernel), List.mem_of_getElem? (i := 299) (by decide +kernel)⟩
theorem lw_p3 : lw_okq (⟨"Candleford", "checkPlace", "(I)V"⟩, 13) := ⟨⟨by decide +kernel, by decide +kernel⟩, List.mem_of_getElem? (i := 32) (by decide +kernel), List.mem_of_getElem? (i := 339) (by decide +kernel), List.mem_of_getElem? (i := 340) (by decide +kernel)⟩
theorem lw_p4 : lw_okq (⟨"java/util/ArrayList", "add", "(Ljava/lang/Object;[Ljava/lang/Object;I)V"⟩, 3) := ⟨⟨by decide +kernel, by decide +kernel⟩, List.mem_of_getElem? (i := 40) (by decide +kernel), List.mem_of_getElem? (i := 455) (by decide +kernel), List.mem_of_getElem? (i := 456) (by decide +kernel)⟩
theorem lw_p5 : lw_okq (⟨"java/util/ArrayList", "grow", "()[Ljava/lang/Object;"⟩, 3) := ⟨⟨by decide +kernel, by decide +kernel⟩, List.mem_of_getElem? (i := 40) (by decide +kernel), List.mem_of_getElem? (i := 459) (by decide +kernel), List.mem_of_getElem? (i := 460) (by decide +kernel)⟩
theorem lw_p6 : lw_okq (⟨"java/util/ArrayList", "grow", "(I)[Ljava/lang/Object;"⟩, 3) := ⟨⟨by decide +kernel, by decide +kernel⟩, List.mem_of_getElem? (i := 40) (by decide +kernel), List.mem_of_getElem? (i := 463) (by decide +kernel), List.mem_of_getElem? (i := 464) (by decide +kernel)⟩
theorem lw_p7 : lw_okq (⟨"Candleford$Ways", "measureFrom", "(I)V"⟩, 3) := ⟨⟨by decide +kernel, by decide +kernel⟩, List.mem_of_getElem? (i := 66) (by decide +kernel), List.mem_of_getElem? (i := 523) (by decide +kernel), List.mem_of_getElem? (i := 524) (by decide +kernel)⟩
theorem lw_p8 : lw_okq (⟨"Candleford$Ways", "nearestNotTaken", "(II)I"⟩, 3) := ⟨⟨by decide +kernel, by decide +kernel⟩, List.mem_of_getElem? (i := 66) (by decide +kernel), List.mem_of_getElem? (i := 527) (by decide +kernel), List.mem_of_getElem? (i := 528) (by decide +kernel)⟩
theorem lw_p9 : lw_okq (⟨"Candleford", "findStreet", "(I)LCandleford$Street;"⟩, 13) := ⟨⟨by decide +kernel, by decide +kernel⟩, List.mem_of_getElem? (i := 32) (by decide +kernel), List.mem_of_getElem? (i := 539) (by decide +kernel), List.mem_of_getElem? (i := 540) (by decide +kernel)⟩
theorem lw_p10 : lw_okq (⟨"Candleford", "findRound", "(I)LCandleford$Round;"⟩, 13) := ⟨⟨by decide +kernel, by decide +kernel⟩, List.mem_of_getElem? (i := 32) (by decide +kernel), List.mem_of_getElem? (i := 601) (by decide +kernel), List.mem_of_getElem? (i := 602) (by decide +kernel)⟩
theorem lw_p11 : lw_okq (⟨"Candleford", "findHouse", "(I)LCandleford$House;"⟩, 13) := ⟨⟨by decide +kernel, by decide +kernel⟩, List.mem_of_getElem? (i := 32) (by decide +kernel), List.mem_of_getElem? (i := 621) (by decide +kernel), List.mem_of_getElem? (i := 622) (by decide +kernel)⟩
theorem lw_p12 : lw_okq (⟨"Candleford", "rankOf", "(LCandleford$House;)I"⟩, 13) := ⟨⟨by decide +kernel, by decide +kernel⟩, List.mem_of_getElem? (i := 32) (by decide +kernel), List.mem_of_getElem? (i := 697) (by decide +kernel), List.mem_of_getElem? (i := 698) (by decide +kernel)⟩
theorem lw_p13 : lw_okq (⟨"Candleford", "dueHouses", "(I)I"⟩, 13) := ⟨⟨by decide +kernel, by decide +kernel⟩, List.mem_of_getElem? (i := 32) (by decide +kernel), List.mem_of_getElem? (i := 738) (by decide +kernel), List.mem_of_getElem? (i := 739) (by decide +kernel)⟩
theorem lw_p14 : lw_okq (⟨"Candleford$Ways", "reachBy", "(LCandleford$Pass;)Z"⟩, 3) := ⟨⟨by decide +kernel, by decide +kernel⟩, List.mem_of_getElem? (i := 66) (by decide +kernel), List.mem_of_getElem? (i := 771) (by decide +kernel), List.mem_of_getElem? (i := 772) (by decide +kernel)⟩
theorem lw_p15 : lw_okq (⟨"Candleford", "collect", "(I)V"⟩, 13) := ⟨⟨by decide +kernel, by decide +kernel⟩, List.mem_of_getElem? (i := 32) (by decide +kernel), List.mem_of_getElem? (i := 782) (by decide +kernel), List.mem_of_getElem? (i := 783) (by decide +kernel)⟩
def lw_privs_1 : List (MethodName × Nat) := [(⟨"Candleford", "hasPost", "(LCandleford$House;)Z"⟩, 13), (⟨"Candleford", "isLight", "(LCandleford$Parcel;)Z"⟩, 13), (⟨"java/lang/Throwable", "fillInStackTrace", "(I)Ljava/lang/Throwable;"⟩, 6), (⟨"Candleford", "checkPlace", "(I)V"⟩, 13), (⟨"java/util/ArrayList", "add", "(Ljava/lang/Object;[Ljava/lang/Object;I)V"⟩, 3), (⟨"java/util/ArrayList", "grow", "()[Ljava/lang/Object;"⟩, 3), (⟨"java/util/ArrayList", "grow", "(I)[Ljava/lang/Object;"⟩, 3), (⟨"Candleford$Ways", "measureFrom", "(I)V"⟩, 3), (⟨"Candleford$Ways", "nearestNotTaken", "(II)I"⟩, 3), (⟨"Candleford", "findStreet", "(I)LCandleford$Street;"⟩, 13), (⟨"Candleford", "findRound", "(I)LCandleford$Round;"⟩, 13), (⟨"Candleford", "findHouse", "(I)LCandleford$House;"⟩, 13), (⟨"Candleford", "rankOf", "(LCandleford$House;)I"⟩, 13), (⟨"Candleford", "dueHouses", "(I)I"⟩, 13), (⟨"Candleford$Ways", "reachBy", "(LCandleford$Pass;)Z"⟩, 3), (⟨"Candleford", "collect", "(I)V"⟩, 13)]
theorem lw_r1 : ∀ q ∈ lw_privs_1, lw_okq q := List.forall_mem_cons.mpr ⟨lw_p0, List.forall_mem_cons.mpr ⟨lw_p1, List.forall_mem_cons.mpr ⟨lw_p2, List.forall_mem_cons.mpr ⟨lw_p3, List.forall_mem_cons.mpr ⟨lw_p4, List.forall_mem_cons.mpr ⟨lw_p5, List.forall_mem_cons.mpr ⟨lw_p6, List.forall_mem_cons.mpr ⟨lw_p7, List.forall_mem_cons.mpr ⟨lw_p8, List.forall_mem_cons.mpr ⟨lw_p9, List.forall_mem_cons.mpr ⟨lw_p10, List.forall_mem_cons.mpr ⟨lw_p11, List.forall_mem_cons.mpr ⟨lw_p12, List.forall_mem_cons.mpr ⟨lw_p13, List.forall_mem_cons.mpr ⟨lw_p14, List.forall_mem_cons.mpr ⟨lw_p15, fun _ h => absurd h List.not_mem_nil⟩⟩⟩⟩⟩⟩⟩⟩⟩⟩⟩⟩⟩⟩⟩⟩
theorem lw_p16 : lw_okq (⟨"Candleford", "dueSides", "(LCandleford$Street;)I"⟩, 13) := ⟨⟨by decide +kernel, by decide +kernel⟩, List.mem_of_getElem? (i := 32) (by decide +kernel), List.mem_of_getElem? (i := 791) (by decide +kernel), List.mem_of_getElem? (i := 792) (by decide +kernel)⟩
theorem lw_p17 : lw_okq (⟨"Candleford$Walk", "addChoice", "(LCandleford$Pass;)V"⟩, 7) := ⟨⟨by decide +kernel, by decide +kernel⟩, List.mem_of_getElem? (i := 112) (by decide +kernel), List.mem_of_getElem? (i := 799) (by decide +kernel), List.mem_of_getElem? (i := 800) (by decide +kernel)⟩
theorem lw_p18 : lw_okq (⟨"Candleford", "collectWalk", "(I)V"⟩, 13) := ⟨⟨by decide +kernel, by decide +kernel⟩, List.mem_of_getElem? (i := 32) (by decide +kernel), List.mem_of_getElem? (i := 827) (by decide +kernel), List.mem_of_getElem? (i := 828) (by decide +kernel)⟩
theorem lw_p19 : lw_okq (⟨"Candleford$Walk", "allNeeds", "()I"⟩, 7) := ⟨⟨by decide +kernel, by decide +kernel⟩, List.mem_of_getElem? (i := 112) (by decide +kernel), List.mem_of_getElem? (i := 845) (by decide +kernel), List.mem_of_getElem? (i := 846) (by decide +kernel)⟩
theorem lw_p20 : lw_okq (⟨"Candleford$Walk", "restWith", "(LCandleford$Pass;I)I"⟩, 7) := ⟨⟨by decide +kernel, by decide +kernel⟩, List.mem_of_getElem? (i := 112) (by decide +kernel), List.mem_of_getElem? (i := 849) (by decide +kernel), List.mem_of_getElem? (i := 850) (by decide +kernel)⟩
theorem lw_p21 : lw_okq (⟨"Candleford$Walk", "comeTo", "(I)V"⟩, 7) := ⟨⟨by decide +kernel, by decide +kernel⟩, List.mem_of_getElem? (i := 112) (by decide +kernel), List.mem_of_getElem? (i := 897) (by decide +kernel), List.mem_of_getElem? (i := 898) (by decide +kernel)⟩
theorem lw_p22 : lw_okq (⟨"Candleford$Walk", "bestPass", "(II)LCandleford$Pass;"⟩, 7) := ⟨⟨by decide +kernel, by decide +kernel⟩, List.mem_of_getElem? (i := 112) (by decide +kernel), List.mem_of_getElem? (i := 901) (by decide +kernel), List.mem_of_getElem? (i := 902) (by decide +kernel)⟩
theorem lw_p23 : lw_okq (⟨"Candleford$Walk", "goTo", "(II)V"⟩, 7) := ⟨⟨by decide +kernel, by decide +kernel⟩, List.mem_of_getElem? (i := 112) (by decide +kernel), List.mem_of_getElem? (i := 905) (by decide +kernel), List.mem_of_getElem? (i := 906) (by decide +kernel)⟩
theorem lw_p24 : lw_okq (⟨"Candleford", "stopTime", "(I)I"⟩, 13) := ⟨⟨by decide +kernel, by decide +kernel⟩, List.mem_of_getElem? (i := 32) (by decide +kernel), List.mem_of_getElem? (i := 936) (by decide +kernel), List.mem_of_getElem? (i := 937) (by decide +kernel)⟩
theorem lw_p25 : lw_okq (⟨"Candleford", "lightParcels", "(I)I"⟩, 13) := ⟨⟨by decide +kernel, by decide +kernel⟩, List.mem_of_getElem? (i := 32) (by decide +kernel), List.mem_of_getElem? (i := 940) (by decide +kernel), List.mem_of_getElem? (i := 941) (by decide +kernel)⟩
theorem lw_p26 : lw_okq (⟨"Candleford", "lengthOf", "(I)I"⟩, 13) := ⟨⟨by decide +kernel, by decide +kernel⟩, List.mem_of_getElem? (i := 32) (by decide +kernel), List.mem_of_getElem? (i := 951) (by decide +kernel), List.mem_of_getElem? (i := 952) (by decide +kernel)⟩
theorem lw_p27 : lw_okq (⟨"Candleford", "isWithin", "(III)Z"⟩, 13) := ⟨⟨by decide +kernel, by decide +kernel⟩, List.mem_of_getElem? (i := 32) (by decide +kernel), List.mem_of_getElem? (i := 955) (by decide +kernel), List.mem_of_getElem? (i := 956) (by decide +kernel)⟩
theorem lw_p28 : lw_okq (⟨"Candleford", "handOver", "(I)V"⟩, 13) := ⟨⟨by decide +kernel, by decide +kernel⟩, List.mem_of_getElem? (i := 32) (by decide +kernel), List.mem_of_getElem? (i := 991) (by decide +kernel), List.mem_of_getElem? (i := 992) (by decide +kernel)⟩
theorem lw_p29 : lw_okq (⟨"Candleford", "checkedSaving", "(II)I"⟩, 13) := ⟨⟨by decide +kernel, by decide +kernel⟩, List.mem_of_getElem? (i := 32) (by decide +kernel), List.mem_of_getElem? (i := 1002) (by decide +kernel), List.mem_of_getElem? (i := 1003) (by decide +kernel)⟩
theorem lw_p30 : lw_okq (⟨"Candleford", "measurePairs", "()V"⟩, 13) := ⟨⟨by decide +kernel, by decide +kernel⟩, List.mem_of_getElem? (i := 32) (by decide +kernel), List.mem_of_getElem? (i := 1023) (by decide +kernel), List.mem_of_getElem? (i := 1024) (by decide +kernel)⟩
theorem lw_p31 : lw_okq (⟨"Candleford", "savedWithin", "(III)I"⟩, 13) := ⟨⟨by decide +kernel, by decide +kernel⟩, List.mem_of_getElem? (i := 32) (by decide +kernel), List.mem_of_getElem? (i := 1028) (by decide +kernel), List.mem_of_getElem? (i := 1029) (by decide +kernel)⟩
def lw_privs_2 : List (MethodName × Nat) := [(⟨"Candleford", "dueSides", "(LCandleford$Street;)I"⟩, 13), (⟨"Candleford$Walk", "addChoice", "(LCandleford$Pass;)V"⟩, 7), (⟨"Candleford", "collectWalk", "(I)V"⟩, 13), (⟨"Candleford$Walk", "allNeeds", "()I"⟩, 7), (⟨"Candleford$Walk", "restWith", "(LCandleford$Pass;I)I"⟩, 7), (⟨"Candleford$Walk", "comeTo", "(I)V"⟩, 7), (⟨"Candleford$Walk", "bestPass", "(II)LCandleford$Pass;"⟩, 7), (⟨"Candleford$Walk", "goTo", "(II)V"⟩, 7), (⟨"Candleford", "stopTime", "(I)I"⟩, 13), (⟨"Candleford", "lightParcels", "(I)I"⟩, 13), (⟨"Candleford", "lengthOf", "(I)I"⟩, 13), (⟨"Candleford", "isWithin", "(III)Z"⟩, 13), (⟨"Candleford", "handOver", "(I)V"⟩, 13), (⟨"Candleford", "checkedSaving", "(II)I"⟩, 13), (⟨"Candleford", "measurePairs", "()V"⟩, 13), (⟨"Candleford", "savedWithin", "(III)I"⟩, 13)]
theorem lw_r2 : ∀ q ∈ lw_privs_2, lw_okq q := List.forall_mem_cons.mpr ⟨lw_p16, List.forall_mem_cons.mpr ⟨lw_p17, List.forall_mem_cons.mpr ⟨lw_p18, List.forall_mem_cons.mpr ⟨lw_p19, List.forall_mem_cons.mpr ⟨lw_p20, List.forall_mem_cons.mpr ⟨lw_p21, List.forall_mem_cons.mpr ⟨lw_p22, List.forall_mem_cons.mpr ⟨lw_p23, List.forall_mem_cons.mpr ⟨lw_p24, List.forall_mem_cons.mpr ⟨lw_p25, List.forall_mem_cons.mpr ⟨lw_p26, List.forall_mem_cons.mpr ⟨lw_p27, List.forall_mem_cons.mpr ⟨lw_p28, List.forall_mem_cons.mpr ⟨lw_p29, List.forall_mem_cons.mpr ⟨lw_p30, List.forall_mem_cons.mpr ⟨lw_p31, fun _ h => absurd h List.not_mem_nil⟩⟩⟩⟩⟩⟩⟩⟩⟩⟩⟩⟩⟩⟩⟩⟩
theorem lw_p32 : lw_okq (⟨"Candleford", "findParcel", "(I)LCandleford$Parcel;"⟩, 13) := ⟨⟨by decide +kernel, by decide +kernel⟩, List.mem_of_getElem? (i := 32) (by decide +kernel), List.mem_of_getElem? (i := 1040) (by decide +kernel), List.mem_of_getElem? (i := 1041) (by decide +kernel)⟩
theorem lw_p33 : lw_okq (⟨"Candleford", "comesBefore", "(LCandleford$Parcel;LCandleford$Parcel;)Z"⟩, 13) := ⟨⟨by decide +kernel, by decide +kernel⟩, List.mem_of_getElem? (i := 32) (by decide +kernel), List.mem_of_getElem? (i := 1059) (by decide +kernel), List.mem_of_getElem? (i := 1060) (by decide +kernel)⟩
theorem lw_p34 : lw_okq (⟨"Candleford", "wayTo", "(LCandleford$Parcel;)I"⟩, 13) := ⟨⟨by decide +kernel, by decide +kernel⟩, List.mem_of_getElem? (i := 32) (by decide +kernel), List.mem_of_getElem? (i := 1063) (by decide +kernel), List.mem_of_getElem? (i := 1064) (by decide +kernel)⟩
theorem lw_p35 : lw_okq (⟨"Candleford", "checkedTrip", "(LCandleford$Parcel;)I"⟩, 13) := ⟨⟨by decide +kernel, by decide +kernel⟩, List.mem_of_getElem? (i := 32) (by decide +kernel), List.mem_of_getElem? (i := 1075) (by decide +kernel), List.mem_of_getElem? (i := 1076) (by decide +kernel)⟩
theorem lw_p36 : lw_okq (⟨"CandlefordModel", "fails", "(I)I"⟩, 37) := ⟨⟨by decide +kernel, by decide +kernel⟩, List.mem_of_getElem? (i := 1120) (by decide +kernel), List.mem_of_getElem? (i := 1247) (by decide +kernel), List.mem_of_getElem? (i := 1248) (by decide +kernel)⟩
theorem lw_p37 : lw_okq (⟨"CandlefordModel", "isPlace", "(I)Z"⟩, 37) := ⟨⟨by decide +kernel, by decide +kernel⟩, List.mem_of_getElem? (i := 1120) (by decide +kernel), List.mem_of_getElem? (i := 1255) (by decide +kernel), List.mem_of_getElem? (i := 1256) (by decide +kernel)⟩
theorem lw_p38 : lw_okq (⟨"CandlefordModel", "isStreet", "(I)Z"⟩, 37) := ⟨⟨by decide +kernel, by decide +kernel⟩, List.mem_of_getElem? (i := 1120) (by decide +kernel), List.mem_of_getElem? (i := 1266) (by decide +kernel), List.mem_of_getElem? (i := 1267) (by decide +kernel)⟩
theorem lw_p39 : lw_okq (⟨"CandlefordModel", "isRound", "(I)Z"⟩, 37) := ⟨⟨by decide +kernel, by decide +kernel⟩, List.mem_of_getElem? (i := 1120) (by decide +kernel), List.mem_of_getElem? (i := 1278) (by decide +kernel), List.mem_of_getElem? (i := 1279) (by decide +kernel)⟩
theorem lw_p40 : lw_okq (⟨"CandlefordModel", "isHouse", "(I)Z"⟩, 37) := ⟨⟨by decide +kernel, by decide +kernel⟩, List.mem_of_getElem? (i := 1120) (by decide +kernel), List.mem_of_getElem? (i := 1290) (by decide +kernel), List.mem_of_getElem? (i := 1291) (by decide +kernel)⟩
theorem lw_p41 : lw_okq (⟨"CandlefordModel", "isDueNow", "(I)Z"⟩, 37) := ⟨⟨by decide +kernel, by decide +kernel⟩, List.mem_of_getElem? (i := 1120) (by decide +kernel), List.mem_of_getElem? (i := 1302) (by decide +kernel), List.mem_of_getElem? (i := 1303) (by decide +kernel)⟩
theorem lw_p42 : lw_okq (⟨"CandlefordModel", "lights", "(I)I"⟩, 37) := ⟨⟨by decide +kernel, by decide +kernel⟩, List.mem_of_getElem? (i := 1120) (by decide +kernel), List.mem_of_getElem? (i := 1306) (by decide +kernel), List.mem_of_getElem? (i := 1307) (by decide +kernel)⟩
theorem lw_p43 : lw_okq (⟨"CandlefordModel", "isLight", "(I)Z"⟩, 37) := ⟨⟨by decide +kernel, by decide +kernel⟩, List.mem_of_getElem? (i := 1120) (by decide +kernel), List.mem_of_getElem? (i := 1310) (by decide +kernel), List.mem_of_getElem? (i := 1311) (by decide +kernel)⟩
theorem lw_p44 : lw_okq (⟨"CandlefordModel", "dueAt", "(I)I"⟩, 37) := ⟨⟨by decide +kernel, by decide +kernel⟩, List.mem_of_getElem? (i := 1120) (by decide +kernel), List.mem_of_getElem? (i := 1346) (by decide +kernel), List.mem_of_getElem? (i := 1347) (by decide +kernel)⟩
theorem lw_p45 : lw_okq (⟨"CandlefordModel", "isAt", "(II)Z"⟩, 37) := ⟨⟨by decide +kernel, by decide +kernel⟩, List.mem_of_getElem? (i := 1120) (by decide +kernel), List.mem_of_getElem? (i := 1350) (by decide +kernel), List.mem_of_getElem? (i := 1351) (by decide +kernel)⟩
theorem lw_p46 : lw_okq (⟨"CandlefordModel", "measures", "()V"⟩, 37) := ⟨⟨by decide +kernel, by decide +kernel⟩, List.mem_of_getElem? (i := 1120) (by decide +kernel), List.mem_of_getElem? (i := 1358) (by decide +kernel), List.mem_of_getElem? (i := 1359) (by decide +kernel)⟩
theorem lw_p47 : lw_okq (⟨"CandlefordModel", "findsNeeds", "(I)V"⟩, 37) := ⟨⟨by decide +kernel, by decide +kernel⟩, List.mem_of_getElem? (i := 1120) (by decide +kernel), List.mem_of_getElem? (i := 1373) (by decide +kernel), List.mem_of_getElem? (i := 1374) (by decide +kernel)⟩
def lw_privs_3 : List (MethodName × Nat) := [(⟨"Candleford", "findParcel", "(I)LCandleford$Parcel;"⟩, 13), (⟨"Candleford", "comesBefore", "(LCandleford$Parcel;LCandleford$Parcel;)Z"⟩, 13), (⟨"Candleford", "wayTo", "(LCandleford$Parcel;)I"⟩, 13), (⟨"Candleford", "checkedTrip", "(LCandleford$Parcel;)I"⟩, 13), (⟨"CandlefordModel", "fails", "(I)I"⟩, 37), (⟨"CandlefordModel", "isPlace", "(I)Z"⟩, 37), (⟨"CandlefordModel", "isStreet", "(I)Z"⟩, 37), (⟨"CandlefordModel", "isRound", "(I)Z"⟩, 37), (⟨"CandlefordModel", "isHouse", "(I)Z"⟩, 37), (⟨"CandlefordModel", "isDueNow", "(I)Z"⟩, 37), (⟨"CandlefordModel", "lights", "(I)I"⟩, 37), (⟨"CandlefordModel", "isLight", "(I)Z"⟩, 37), (⟨"CandlefordModel", "dueAt", "(I)I"⟩, 37), (⟨"CandlefordModel", "isAt", "(II)Z"⟩, 37), (⟨"CandlefordModel", "measures", "()V"⟩, 37), (⟨"CandlefordModel", "findsNeeds", "(I)V"⟩, 37)]
theorem lw_r3 : ∀ q ∈ lw_privs_3, lw_okq q := List.forall_mem_cons.mpr ⟨lw_p32, List.forall_mem_cons.mpr ⟨lw_p33, List.forall_mem_cons.mpr ⟨lw_p34, List.forall_mem_cons.mpr ⟨lw_p35, List.forall_mem_cons.mpr ⟨lw_p36, List.forall_mem_cons.mpr ⟨lw_p37, List.forall_mem_cons.mpr ⟨lw_p38, List.forall_mem_cons.mpr ⟨lw_p39, List.forall_mem_cons.mpr ⟨lw_p40, List.forall_mem_cons.mpr ⟨lw_p41, List.forall_mem_cons.mpr ⟨lw_p42, List.forall_mem_cons.mpr ⟨lw_p43, List.forall_mem_cons.mpr ⟨lw_p44, List.forall_mem_cons.mpr ⟨lw_p45, List.forall_mem_cons.mpr ⟨lw_p46, List.forall_mem_cons.mpr ⟨lw_p47, fun _ h => absurd h List.not_mem_nil⟩⟩⟩⟩⟩⟩⟩⟩⟩⟩⟩⟩⟩⟩⟩⟩
theorem lw_p48 : lw_okq (⟨"CandlefordModel", "isSideDue", "(II)Z"⟩, 37) := ⟨⟨by decide +kernel, by decide +kernel⟩, List.mem_of_getElem? (i := 1120) (by decide +kernel), List.mem_of_getElem? (i := 1377) (by decide +kernel), List.mem_of_getElem? (i := 1378) (by decide +kernel)⟩
theorem lw_p49 : lw_okq (⟨"CandlefordModel", "needs", "(I)V"⟩, 37) := ⟨⟨by decide +kernel, by decide +kernel⟩, List.mem_of_getElem? (i := 1120) (by decide +kernel), List.mem_of_getElem? (i := 1381) (by decide +kernel), List.mem_of_getElem? (i := 1382) (by decide +kernel)⟩
theorem lw_p50 : lw_okq (⟨"CandlefordModel", "walks", "(I)Z"⟩, 37) := ⟨⟨by decide +kernel, by decide +kernel⟩, List.mem_of_getElem? (i := 1120) (by decide +kernel), List.mem_of_getElem? (i := 1389) (by decide +kernel), List.mem_of_getElem? (i := 1390) (by decide +kernel)⟩
theorem lw_p51 : lw_okq (⟨"CandlefordModel", "findsChoices", "()V"⟩, 37) := ⟨⟨by decide +kernel, by decide +kernel⟩, List.mem_of_getElem? (i := 1120) (by decide +kernel), List.mem_of_getElem? (i := 1393) (by decide +kernel), List.mem_of_getElem? (i := 1394) (by decide +kernel)⟩
theorem lw_p52 : lw_okq (⟨"CandlefordModel", "chooses", "(II)V"⟩, 37) := ⟨⟨by decide +kernel, by decide +kernel⟩, List.mem_of_getElem? (i := 1120) (by decide +kernel), List.mem_of_getElem? (i := 1397) (by decide +kernel), List.mem_of_getElem? (i := 1398) (by decide +kernel)⟩
theorem lw_p53 : lw_okq (⟨"CandlefordModel", "bestChoice", "(II)I"⟩, 37) := ⟨⟨by decide +kernel, by decide +kernel⟩, List.mem_of_getElem? (i := 1120) (by decide +kernel), List.mem_of_getElem? (i := 1401) (by decide +kernel), List.mem_of_getElem? (i := 1402) (by decide +kernel)⟩
theorem lw_p54 : lw_okq (⟨"CandlefordModel", "from", "(I)I"⟩, 37) := ⟨⟨by decide +kernel, by decide +kernel⟩, List.mem_of_getElem? (i := 1120) (by decide +kernel), List.mem_of_getElem? (i := 1405) (by decide +kernel), List.mem_of_getElem? (i := 1406) (by decide +kernel)⟩
theorem lw_p55 : lw_okq (⟨"CandlefordModel", "to", "(I)I"⟩, 37) := ⟨⟨by decide +kernel, by decide +kernel⟩, List.mem_of_getElem? (i := 1120) (by decide +kernel), List.mem_of_getElem? (i := 1409) (by decide +kernel), List.mem_of_getElem? (i := 1410) (by decide +kernel)⟩
theorem lw_p56 : lw_okq (⟨"CandlefordModel", "isWalkless", "(I)Z"⟩, 37) := ⟨⟨by decide +kernel, by decide +kernel⟩, List.mem_of_getElem? (i := 1120) (by decide +kernel), List.mem_of_getElem? (i := 1417) (by decide +kernel), List.mem_of_getElem? (i := 1418) (by decide +kernel)⟩
theorem lw_p57 : lw_okq (⟨"CandlefordModel", "findsSteps", "()V"⟩, 37) := ⟨⟨by decide +kernel, by decide +kernel⟩, List.mem_of_getElem? (i := 1120) (by decide +kernel), List.mem_of_getElem? (i := 1433) (by decide +kernel), List.mem_of_getElem? (i := 1434) (by decide +kernel)⟩
theorem lw_p58 : lw_okq (⟨"CandlefordModel", "comesTo", "(I)V"⟩, 37) := ⟨⟨by decide +kernel, by decide +kernel⟩, List.mem_of_getElem? (i := 1120) (by decide +kernel), List.mem_of_getElem? (i := 1437) (by decide +kernel), List.mem_of_getElem? (i := 1438) (by decide +kernel)⟩
theorem lw_p59 : lw_okq (⟨"CandlefordModel", "goes", "(II)V"⟩, 37) := ⟨⟨by decide +kernel, by decide +kernel⟩, List.mem_of_getElem? (i := 1120) (by decide +kernel), List.mem_of_getElem? (i := 1441) (by decide +kernel), List.mem_of_getElem? (i := 1442) (by decide +kernel)⟩
theorem lw_p60 : lw_okq (⟨"CandlefordModel", "shortest", "(II)I"⟩, 37) := ⟨⟨by decide +kernel, by decide +kernel⟩, List.mem_of_getElem? (i := 1120) (by decide +kernel), List.mem_of_getElem? (i := 1445) (by decide +kernel), List.mem_of_getElem? (i := 1446) (by decide +kernel)⟩
theorem lw_p61 : lw_okq (⟨"CandlefordModel", "timeOf", "(I)I"⟩, 37) := ⟨⟨by decide +kernel, by decide +kernel⟩, List.mem_of_getElem? (i := 1120) (by decide +kernel), List.mem_of_getElem? (i := 1457) (by decide +kernel), List.mem_of_getElem? (i := 1458) (by decide +kernel)⟩
theorem lw_p62 : lw_okq (⟨"CandlefordModel", "passes", "(II)Z"⟩, 37) := ⟨⟨by decide +kernel, by decide +kernel⟩, List.mem_of_getElem? (i := 1120) (by decide +kernel), List.mem_of_getElem? (i := 1469) (by decide +kernel), List.mem_of_getElem? (i := 1470) (by decide +kernel)⟩
theorem lw_p63 : lw_okq (⟨"CandlefordModel", "savingBy", "(II)I"⟩, 37) := ⟨⟨by decide +kernel, by decide +kernel⟩, List.mem_of_getElem? (i := 1120) (by decide +kernel), List.mem_of_getElem? (i := 1481) (by decide +kernel), List.mem_of_getElem? (i := 1482) (by decide +kernel)⟩
def lw_privs_4 : List (MethodName × Nat) := [(⟨"CandlefordModel", "isSideDue", "(II)Z"⟩, 37), (⟨"CandlefordModel", "needs", "(I)V"⟩, 37), (⟨"CandlefordModel", "walks", "(I)Z"⟩, 37), (⟨"CandlefordModel", "findsChoices", "()V"⟩, 37), (⟨"CandlefordModel", "chooses", "(II)V"⟩, 37), (⟨"CandlefordModel", "bestChoice", "(II)I"⟩, 37), (⟨"CandlefordModel", "from", "(I)I"⟩, 37), (⟨"CandlefordModel", "to", "(I)I"⟩, 37), (⟨"CandlefordModel", "isWalkless", "(I)Z"⟩, 37), (⟨"CandlefordModel", "findsSteps", "()V"⟩, 37), (⟨"CandlefordModel", "comesTo", "(I)V"⟩, 37), (⟨"CandlefordModel", "goes", "(II)V"⟩, 37), (⟨"CandlefordModel", "shortest", "(II)I"⟩, 37), (⟨"CandlefordModel", "timeOf", "(I)I"⟩, 37), (⟨"CandlefordModel", "passes", "(II)Z"⟩, 37), (⟨"CandlefordModel", "savingBy", "(II)I"⟩, 37)]
theorem lw_r4 : ∀ q ∈ lw_privs_4, lw_okq q := List.forall_mem_cons.mpr ⟨lw_p48, List.forall_mem_cons.mpr ⟨lw_p49, List.forall_mem_cons.mpr ⟨lw_p50, List.forall_mem_cons.mpr ⟨lw_p51, List.forall_mem_cons.mpr ⟨lw_p52, List.forall_mem_cons.mpr ⟨lw_p53, List.forall_mem_cons.mpr ⟨lw_p54, List.forall_mem_cons.mpr ⟨lw_p55, List.forall_mem_cons.mpr ⟨lw_p56, List.forall_mem_cons.mpr ⟨lw_p57, List.forall_mem_cons.mpr ⟨lw_p58, List.forall_mem_cons.mpr ⟨lw_p59, List.forall_mem_cons.mpr ⟨lw_p60, List.forall_mem_cons.mpr ⟨lw_p61, List.forall_mem_cons.mpr ⟨lw_p62, List.forall_mem_cons.mpr ⟨lw_p63, fun _ h => absurd h List.not_mem_nil⟩⟩⟩⟩⟩⟩⟩⟩⟩⟩⟩⟩⟩⟩⟩⟩
theorem lw_p64 : lw_okq (⟨"CandlefordModel", "isParcel", "(I)Z"⟩, 37) := ⟨⟨by decide +kernel, by decide +kernel⟩, List.mem_of_getElem? (i := 1120) (by decide +kernel), List.mem_of_getElem? (i := 1498) (by decide +kernel), List.mem_of_getElem? (i := 1499) (by decide +kernel)⟩
theorem lw_p65 : lw_okq (⟨"CandlefordModel", "nextHeavy", "()I"⟩, 37) := ⟨⟨by decide +kernel, by decide +kernel⟩, List.mem_of_getElem? (i := 1120) (by decide +kernel), List.mem_of_getElem? (i := 1510) (by decide +kernel), List.mem_of_getElem? (i := 1511) (by decide +kernel)⟩
theorem lw_p66 : lw_okq (⟨"CandlefordModel", "goesFirst", "(II)Z"⟩, 37) := ⟨⟨by decide +kernel, by decide +kernel⟩, List.mem_of_getElem? (i := 1120) (by decide +kernel), List.mem_of_getElem? (i := 1514) (by decide +kernel), List.mem_of_getElem? (i := 1515) (by decide +kernel)⟩
theorem lw_p67 : lw_okq (⟨"CandlefordModel", "farTo", "(I)I"⟩, 37) := ⟨⟨by decide +kernel, by decide +kernel⟩, List.mem_of_getElem? (i := 1120) (by decide +kernel), List.mem_of_getElem? (i := 1518) (by decide +kernel), List.mem_of_getElem? (i := 1519) (by decide +kernel)⟩
theorem lw_p68 : lw_okq (⟨"CandlefordModel", "trip", "(I)I"⟩, 37) := ⟨⟨by decide +kernel, by decide +kernel⟩, List.mem_of_getElem? (i := 1120) (by decide +kernel), List.mem_of_getElem? (i := 1526) (by decide +kernel), List.mem_of_getElem? (i := 1527) (by decide +kernel)⟩
def lw_privs_5 : List (MethodName × Nat) := [(⟨"CandlefordModel", "isParcel", "(I)Z"⟩, 37), (⟨"CandlefordModel", "nextHeavy", "()I"⟩, 37), (⟨"CandlefordModel", "goesFirst", "(II)Z"⟩, 37), (⟨"CandlefordModel", "farTo", "(I)I"⟩, 37), (⟨"CandlefordModel", "trip", "(I)I"⟩, 37)]
theorem lw_r5 : ∀ q ∈ lw_privs_5, lw_okq q := List.forall_mem_cons.mpr ⟨lw_p64, List.forall_mem_cons.mpr ⟨lw_p65, List.forall_mem_cons.mpr ⟨lw_p66, List.forall_mem_cons.mpr ⟨lw_p67, List.forall_mem_cons.mpr ⟨lw_p68, fun _ h => absurd h List.not_mem_nil⟩⟩⟩⟩⟩
def lw_privs : List (MethodName × Nat) := lw_privs_1 ++ (lw_privs_2 ++ (lw_privs_3 ++ (lw_privs_4 ++ (lw_privs_5))))
def lw_tbl : List Cond := k2_sels lw_privs ++ tables_1
theorem lw_privs_ok : ∀ q ∈ lw_privs, lw_okq q := by
  show ∀ q ∈ lw_privs_1 ++ (lw_privs_2 ++ (lw_privs_3 ++ (lw_privs_4 ++ (lw_privs_5)))), lw_okq q
  exact List.forall_mem_append.mpr ⟨lw_r1, List.forall_mem_append.mpr ⟨lw_r2, List.forall_mem_append.mpr ⟨lw_r3, List.forall_mem_append.mpr ⟨lw_r4, lw_r5⟩⟩⟩⟩
/-- the streams that the claim lets the run draw from -/
abbrev lw_cs : List Choice := [Jvm.Choice.named "NaN.bits"]
theorem lw_bits : nanBits ∈ lw_cs := by first | decide | exact List.mem_cons_self | simp [lw_cs, nanBits]
/-! ===== BEGIN words of one list among another's, by their places ===== -/
theorem goodIn_r {big : List Cond} (ws : List Cond) (ps : List Nat) (hp : ws = ps.filterMap (fun i => big[i]?)) (h : ws.all goodWord = true) : GoodIn big ws := by
  intro w hw
  have h1 := List.all_eq_true.mp h w hw
  rw [hp] at hw
  obtain ⟨i, -, hi⟩ := List.mem_filterMap.mp hw
  have hm : w ∈ big := by first | exact List.mem_of_getElem? hi | exact List.getElem?_mem hi
  exact ⟨hm, good_of_word h1⟩
theorem goodIn_app {big a b : List Cond} (ha : GoodIn big a) (hb : GoodIn big b) : GoodIn big (a ++ b) := fun w h => (List.mem_append.mp h).elim (ha w) (hb w)
theorem goodIn_ca {big a b : List Cond} {c : Cond} (ha : GoodIn big (c :: a)) (hb : GoodIn big b) : GoodIn big (c :: (a ++ b)) := fun w h => (List.mem_cons.mp h).elim (fun e => ha w (List.mem_cons.mpr (Or.inl e))) (fun h => (List.mem_append.mp h).elim (fun h => ha w (List.mem_cons.mpr (Or.inr h))) (hb w))
theorem goodIn_sub {big ws : List Cond} (hm : ∀ w ∈ ws, w ∈ big) (h : ws.all goodWord = true) : GoodIn big ws := fun w hw => ⟨hm w hw, good_of_word (List.all_eq_true.mp h w hw)⟩
/-! ===== END ===== -/

/-! ===== BEGIN exceptions that leave a method, and their catching by the caller (launches without stack traces) ===== -/
section VXA
/-! The laws vx_back, vx_callV, vx_callS, vx_callSW, vx_throw0, vx_throwS follow proofs of the library, with one case more: JvmDerived/Free/Laws.lean (Back.of_free), Shelf42/LK1.lean (callV, callS), Shelf/KitTraced.lean (throwNew0V, throwNewS). -/
/-- where a method has thrown q: the class by its name, the cell, what was written, the world -/
def vx_T (XC : String → State → State → Prop) (st : State) (q : Addr) (t : State) (mc ms : Nat) (free : Addr → Prop) : Prop :=
  ∃ (E : String) (ce : Cell) (L : List Loc), XC E st t ∧ t.heap[q]? = some ce ∧ ce.vm = .none ∧ st.vm.findClass E = some ce.cls ∧ st.WarmedH t.vm ∧ st.sameButNew ({ t with vm := st.vm } : State) L mc ms ∧ ∀ z ∈ L, free z.base
def vx_Q (Qc : Array Value → State → Outcome → State → Prop) (XC : String → State → State → Prop) (mc ms : Nat) (free : Addr → Prop) : Array Value → State → Outcome → State → Prop := fun a st o t =>
  (Qc a st o t ∧ ∃ L, FrameEnd st o t L mc ms ∧ ∀ q ∈ L, free q.base) ∨ ∃ q, o = .threw q ∧ vx_T XC st q t mc ms free
/-- a callee that returns or throws -/
def vx_Met (l : Launch) (y : MethodName) (ws : List Cond) (rm : Room) (Pc : Array Value → State → Prop) (Qc : Array Value → State → Outcome → State → Prop) (XC : String → State → State → Prop) (mc ms : Nat) (free : Addr → Prop) : Prop :=
  MetFree l y (headSpec ws rm) Pc (fun _ _ _ _ _ => True) (vx_Q Qc XC mc ms free)
def vx_Post (XC : String → State → State → Prop) (mc ms : Nat) (free : Addr → Prop) : Pt → Array Value → Addr → Pt → Prop := fun A a q B =>
  ∃ (g : JFrame) (mk : MethodId) (t : State) (L : List Loc) (E : String) (ce : Cell), B.U.heap = t.heap ∧ B.U.vm = t.vm ∧ XC E (A.U.calling g mk a) t ∧ t.heap[q]? = some ce ∧ ce.vm = .none ∧ A.U.vm.findClass E = some ce.cls ∧ B.locs = A.locs ++ L ∧ (∀ z ∈ L, free z.base) ∧ B.cells = A.cells + mc ∧ B.slots = A.slots + ms
def vx_Back (l : Launch) (R : Room) (p : Program) (e : Env) (below : List Frame) (s : State) (sargs : Array Value) (y : MethodName) (len W9 : Nat)
    (Pre : Pt → Array Value → Prop) (Post : Pt → Array Value → Option Value → Pt → Prop) (PostX : Pt → Array Value → Addr → Pt → Prop) : Prop :=
  ∀ (m : MethodId) (meth : Method) (c : Code) (A : Pt) (g : JFrame) (ig : Instr) (mk : MethodId) (a : Array Value),
    Stand p l e R s m sargs below meth c A.U A.locs A.cells A.slots → g.method = m → g.locals.size = c.maxLocals → decode c.code g.pc = .ok (ig, len) →
    2 * g.monitorRoom + (g.stack.map fun v => v.category).sum ≤ W9 → A.U.methodNamed? y = some mk → Pre A a →
    (∃ (v : Option Value) (B : Pt), Stand p l e R s m sargs below meth c B.U B.locs B.cells B.slots ∧ Post A a v B ∧
      Steps p.tables e below (doInvoke e (A.U.setTop g) [] mk a).1 (B.U.setTop { g with pc := g.pc + len, stack := v.toList ++ g.stack })) ∨
    (∃ (q : Addr) (B : Pt), Stand p l e R s m sargs below meth c B.U B.locs B.cells B.slots ∧ PostX A a q B ∧
      Steps p.tables e below (doInvoke e (A.U.setTop g) [] mk a).1 ((B.U.setTop g).pushFrame (.throwing q)))
section Payer
variable {l : Launch} {R : Room} {p : Program} {e : Env} {below : List Frame} {s : State} {sargs : Array Value} {y : MethodName} {len W9 : Nat}
theorem vx_back {ws : List Cond} {rm : Room} {Pc : Array Value → State → Prop} {Qc : Array Value → State → Outcome → State → Prop} {XC : String → State → State → Prop} {mc ms : Nat} {free : Addr → Prop} {bytes : ByteArray} {maxL : Nat} {ret : Option FieldType}
    (hM : vx_Met l y ws rm Pc Qc XC mc ms free) (hblind : FrameBlind Pc) (hrc : rm.cells = mc) (hrs : rm.slots = ms)
    (hframes : rm.frames + 1 ≤ R.frames) (hlocals : W9 + (maxL + 11) + rm.locals ≤ R.locals)
    (hws : ∀ w ∈ ws, ∀ a' U, s.WarmedH U.vm → w.before a' U = true) (hcode : Cond.code y bytes maxL ret ∈ ws) (hinit : ∀ a' U, s.WarmedH U.vm → (Cond.initialized y.cls).before a' U = true) :
    vx_Back l R p e below s sargs y len W9 (PreOf R mc ms Pc) (PostOf Qc mc ms free) (vx_Post XC mc ms free) := by
  intro m meth c A g ig mk a X hg hsize hdg hW hn hp
  have h1 : (headSpec ws rm).pre.before a A.U = true := atoms_intro fun w hw => hws w hw _ _ X.warmed
  have h2 : (Cond.code y bytes maxL ret).before a A.U = true := hws _ hcode _ _ X.warmed
  have h3 : (Cond.initialized y.cls).before a A.U = true := hinit _ _ X.warmed
  have h4 : A.cells + (headSpec ws rm).room.cells ≤ R.cells := by rw [show (headSpec ws rm).room.cells = mc from hrc]; exact hp.1
  have h5 : A.slots + (headSpec ws rm).room.slots ≤ R.slots := by rw [show (headSpec ws rm).room.slots = ms from hrs]; exact hp.2.1
  have hPc : Pc a (A.U.calling g mk a) := hblind _ _ _ _ hp.2.2
  obtain ⟨U, Ls, c0, s0⟩ := A
  dsimp only [Pt.U, Pt.locs, Pt.cells, Pt.slots] at h1 h2 h3 h4 h5 X hn hPc ⊢
  obtain ⟨methY, cY, hmY, hcY, -, hlY, -, -, -, -⟩ := Cond.code_spec hn h2
  obtain ⟨kY, hkY, -⟩ := className_of_methodNamed hn
  have hinitY : kY.init = .initialized := Cond.initialized_spec (findClass_of_methodNamed hn) hkY h3
  have h : At U g.method c below := by rw [hg]; exact X.here
  have hlocals9 : W9 + (maxL + 11) + (headSpec ws rm).room.locals ≤ R.locals := hlocals
  have happ : (headSpec ws rm).appliesLoose y e.platform (U.calling g mk a) = true :=
    Spec.appliesLoose_calling (g := g) h hdg hn hkY hinitY
      (X.room_calling (g := g) (R' := (headSpec ws rm).room) hsize hmY hcY hframes (by rw [hlY]; omega) h4 h5) h1
  obtain ⟨mid, hmid⟩ := h.above
  have hfr : (U.setTop g).frames = (.java g :: mid) ++ below := by rw [State.frames_setTop' g h.top, hmid]; rfl
  obtain ⟨o, s₂, hsteps, -, hend, hq⟩ := Steps.callFree hM p X.admits X.cas X.clock (acts := []) hfr happ hPc trivial
  have hq' : vx_Q Qc XC mc ms free a (U.calling g mk a) o s₂ := hq
  rw [State.frames_setTop' g h.top] at hend
  obtain ⟨g₀, hg0⟩ := Option.isSome_iff_exists.mp h.top
  obtain ⟨r, hr⟩ := State.topJava?_eq_some.mp hg0
  have hr' : (({ U with heap := s₂.heap, slotsUsed := s₂.slotsUsed } : State).setVm s₂.vm).frames = .java g₀ :: r := hr
  rcases hq' with ⟨hqc, L, hfe, hL⟩ | ⟨q, rfl, E, ce, L, hx, hce, hcv, hcl, hW₂, hsm, hL⟩
  · obtain ⟨⟨v, rfl⟩, hW₂, e2, q2, q3, q4, q5, q6⟩ := id hfe
    have e3 : s₂ = ({ (U.calling g mk a).setFrames s₂.frames with heap := s₂.heap, slotsUsed := s₂.slotsUsed } : State).setVm s₂.vm := by
      have : s₂ = ({ s₂ with vm := (U.calling g mk a).vm } : State).setVm s₂.vm := rfl
      rw [e2] at this
      exact this
    obtain ⟨c₂, i₂, len₂, hc₂, hd₂, hf₂⟩ := hend
    have hW' : U.WarmedH s₂.vm := hW₂
    have hcc : c₂ = c := by
      have h1 : s₂.code? g.method = U.code? g.method := by
        rw [State.code?_eq, State.code?_eq, hW'.alike.method?]
      exact Option.some.inj (hc₂.symm.trans (h1.trans h.code))
    subst hcc
    have hlen : len₂ = len := by rw [hdg] at hd₂; cases hd₂; rfl
    subst hlen
    have hs₂ : s₂ = (({ U with heap := s₂.heap, slotsUsed := s₂.slotsUsed } : State).setVm s₂.vm).setTop { g with pc := g.pc + len₂, stack := v.toList ++ g.stack } := by
      refine e3.trans ?_
      rw [hf₂, State.calling_eq h.top, State.setFrames_setFrames, State.setTop_of_frames _ hr', hr]
      rfl
    have hsame : U.sameButNew ({ U with heap := s₂.heap, slotsUsed := s₂.slotsUsed } : State) L mc ms := by
      refine ⟨?_, q2, q3, q4, q5, q6⟩
      obtain ⟨t, ht, -⟩ := State.frames_cons hr
      show ({ U with heap := s₂.heap, slotsUsed := s₂.slotsUsed } : State) = { U.setFrames U.frames with heap := s₂.heap, slotsUsed := s₂.slotsUsed }
      rw [State.setFrames_self ht]
    subst hg
    refine Or.inl ⟨v, ⟨(({ U with heap := s₂.heap, slotsUsed := s₂.slotsUsed } : State).setVm s₂.vm), Ls ++ L, c0 + mc, s0 + ms⟩,
      ⟨X.admits, X.cas, X.clock, X.frames, X.room, X.hears, X.method, X.code, (X.here.setHeapUsed s₂.heap s₂.slotsUsed).setVm hW'.alike, X.tail, State.WarmedH.trans X.warmed hW', X.limits, X.bytes, X.same.trans (hsame.setVm s.vm)⟩,
      ⟨g, mk, s₂, L, rfl, rfl, hqc, rfl, hL, rfl, rfl⟩, ?_⟩
    show Steps p.tables e below _ ((({ U with heap := s₂.heap, slotsUsed := s₂.slotsUsed } : State).setVm s₂.vm).setTop { g with pc := g.pc + len₂, stack := v.toList ++ g.stack })
    rw [← hs₂]
    exact hsteps
  · obtain ⟨e2, q2, q3, q4, q5, q6⟩ := id hsm
    have e3 : s₂ = ({ (U.calling g mk a).setFrames s₂.frames with heap := s₂.heap, slotsUsed := s₂.slotsUsed } : State).setVm s₂.vm := by
      have : s₂ = ({ s₂ with vm := (U.calling g mk a).vm } : State).setVm s₂.vm := rfl
      rw [e2] at this
      exact this
    have hf₂ : s₂.frames = .throwing q :: .java g :: U.frames.tail := hend
    have hW' : U.WarmedH s₂.vm := hW₂
    have hs₂ : s₂ = ((({ U with heap := s₂.heap, slotsUsed := s₂.slotsUsed } : State).setVm s₂.vm).setTop g).pushFrame (.throwing q) := by
      refine e3.trans ?_
      rw [hf₂, State.calling_eq h.top, State.setFrames_setFrames, State.pushFrame, State.frames_setTop _ hr', State.setTop_of_frames _ hr', State.setFrames_setFrames, hr]
      rfl
    have hsame : U.sameButNew ({ U with heap := s₂.heap, slotsUsed := s₂.slotsUsed } : State) L mc ms := by
      refine ⟨?_, q2, q3, q4, q5, q6⟩
      obtain ⟨t, ht, -⟩ := State.frames_cons hr
      show ({ U with heap := s₂.heap, slotsUsed := s₂.slotsUsed } : State) = { U.setFrames U.frames with heap := s₂.heap, slotsUsed := s₂.slotsUsed }
      rw [State.setFrames_self ht]
    subst hg
    refine Or.inr ⟨q, ⟨(({ U with heap := s₂.heap, slotsUsed := s₂.slotsUsed } : State).setVm s₂.vm), Ls ++ L, c0 + mc, s0 + ms⟩,
      ⟨X.admits, X.cas, X.clock, X.frames, X.room, X.hears, X.method, X.code, (X.here.setHeapUsed s₂.heap s₂.slotsUsed).setVm hW'.alike, X.tail, State.WarmedH.trans X.warmed hW', X.limits, X.bytes, X.same.trans (hsame.setVm s.vm)⟩,
      ⟨g, mk, s₂, L, E, ce, rfl, rfl, hx, hce, hcv, hcl, rfl, hL, rfl, rfl⟩, ?_⟩
    show Steps p.tables e below _ (((({ U with heap := s₂.heap, slotsUsed := s₂.slotsUsed } : State).setVm s₂.vm).setTop g).pushFrame (.throwing q))
    rw [← hs₂]
    exact hsteps
end Payer
section Calls
variable {p : Program} {l : Launch} {e : Env} {R : Room} {s : State} {m : MethodId} {args : Array Value} {below : List Frame} {meth : Method} {c : Code} {T : State} {locs : List Loc} {cells slots : Nat}
theorem vx_callV (X : Stand p l e R s m args below meth c T locs cells slots) (hexec : p.tables.exec = Jvm.exec) {own C : String} {index : Nat} {y : MethodName} {bytes : ByteArray} {maxL : Nat} {ret : Option FieldType}
    (hown : s.vm.findClass own = some m.cls) (hlink : (Cond.methodLink own index y).before args s = true) (hinst : (Cond.instanceMethod y).before args s = true) (hsel : (Cond.selects C y y).before args s = true)
    (hcode : (Cond.code y bytes maxL ret).before args s = true) (hy : y.cls ≠ "java/lang/invoke/MethodHandle" ∧ y.cls ≠ "java/lang/invoke/VarHandle")
    {W9 : Nat} {Pre : Pt → Array Value → Prop} {Post : Pt → Array Value → Option Value → Pt → Prop} {PostX : Pt → Array Value → Addr → Pt → Prop} (hK : vx_Back l R p e below s args y 3 W9 Pre Post PostX)
    {b : Addr} {cellB : Cell} (hcell : T.heap[b]? = some cellB) (hobj : cellB.vm.isStatics = false) (hcls : s.vm.findClass C = some cellB.cls)
    {g : JFrame} (hg : g.method = m) (hsize : g.locals.size = c.maxLocals) {argsL rest : List Value} (hlen : ∀ sig, parseMethodDescriptor y.desc = some sig → argsL.length = sig.parameters.length)
    (hstack : g.stack = argsL.reverse ++ .ref b :: rest) (hW : 2 * g.monitorRoom + (rest.map fun v => v.category).sum ≤ W9) (hdg : decode c.code g.pc = .ok (.invokevirtual index, 3))
    (hpre : ∀ vm₁, s.WarmedH vm₁ → Pre ⟨T.setVm vm₁, locs, cells, slots⟩ (Value.ref b :: argsL).toArray) :
    (∃ (v : Option Value) (vm₁ : Vm) (B : Pt), s.WarmedH vm₁ ∧ Stand p l e R s m args below meth c B.U B.locs B.cells B.slots ∧ Post ⟨T.setVm vm₁, locs, cells, slots⟩ (Value.ref b :: argsL).toArray v B ∧
      ∀ target, Steps p.tables e below (B.U.setTop { g with pc := g.pc + 3, stack := v.toList ++ rest }) target → Steps p.tables e below (T.setTop g) target) ∨
    (∃ (q : Addr) (vm₁ : Vm) (B : Pt), s.WarmedH vm₁ ∧ Stand p l e R s m args below meth c B.U B.locs B.cells B.slots ∧ PostX ⟨T.setVm vm₁, locs, cells, slots⟩ (Value.ref b :: argsL).toArray q B ∧
      Steps p.tables e below (T.setTop g) ((B.U.setTop { g with stack := rest }).pushFrame (.throwing q))) := by
  obtain ⟨mk, methM, hnamed, hmethM, hstM, habM⟩ := Cond.instanceMethod_spec hinst
  obtain ⟨methM', cM, hmethM', -, -, -, -, -, -, hsigM⟩ := Cond.code_spec hnamed hcode
  cases hmethM.symm.trans hmethM'
  obtain ⟨c2, r2, m2, q1, q2, q3, q4, kP, hkP, hkPi⟩ := Cond.selects_spec hsel
  cases hcls.symm.trans q1
  cases (State.methodFound?_of_named hnamed hy).symm.trans q2
  cases hnamed.symm.trans q3
  have hselP : selectMethod e.platform s.vm cellB.cls mk = .method mk := by rw [Launch.admits_selectMethod X.admits]; exact q4
  obtain ⟨vm₁, X₁, hstep₁⟩ := X.invokevirtual hexec hown hlink hnamed hmethM hstM hkP hkPi hy (a := b) (cell := cellB) hcell
    (fun z h => by rw [h] at hobj; cases hobj) hselP hmethM habM hkP hkPi (g := g) hg (argsL := argsL) (rest := rest) (hlen _ hsigM) hstack hdg
  rcases hK m meth c ⟨T.setVm vm₁, locs, cells, slots⟩ { g with stack := rest } (.invokevirtual index) mk (Value.ref b :: argsL).toArray X₁ hg hsize hdg hW (X₁.named hnamed) (hpre vm₁ X₁.warmed) with ⟨v, B, X', hpost, hsteps⟩ | ⟨q, B, X', hpost, hsteps⟩
  · exact Or.inl ⟨v, vm₁, B, X₁.warmed, X', hpost, fun target h => hstep₁ _ fun acts => by rw [doInvoke_state]; exact hsteps.trans h⟩
  · exact Or.inr ⟨q, vm₁, B, X₁.warmed, X', hpost, hstep₁ _ fun acts => by rw [doInvoke_state]; exact hsteps⟩
theorem vx_callS (X : Stand p l e R s m args below meth c T locs cells slots) (hexec : p.tables.exec = Jvm.exec) {own : String} {index : Nat} {y : MethodName} {bytes : ByteArray} {maxL : Nat} {ret : Option FieldType}
    (hown : s.vm.findClass own = some m.cls) (hlink : (Cond.methodLink own index y).before args s = true) (hstat : (Cond.static y).before args s = true) (hinit : (Cond.initialized y.cls).before args s = true)
    (hcode : (Cond.code y bytes maxL ret).before args s = true) (hy : y.cls ≠ "java/lang/invoke/MethodHandle" ∧ y.cls ≠ "java/lang/invoke/VarHandle")
    {W9 : Nat} {Pre : Pt → Array Value → Prop} {Post : Pt → Array Value → Option Value → Pt → Prop} {PostX : Pt → Array Value → Addr → Pt → Prop} (hK : vx_Back l R p e below s args y 3 W9 Pre Post PostX)
    {g : JFrame} (hg : g.method = m) (hsize : g.locals.size = c.maxLocals) {argsL rest : List Value} (hlen : ∀ sig, parseMethodDescriptor y.desc = some sig → argsL.length = sig.parameters.length)
    (hstack : g.stack = argsL.reverse ++ rest) (hW : 2 * g.monitorRoom + (rest.map fun v => v.category).sum ≤ W9) (hdg : decode c.code g.pc = .ok (.invokestatic index, 3))
    (hpre : ∀ vm₁, s.WarmedH vm₁ → Pre ⟨T.setVm vm₁, locs, cells, slots⟩ argsL.toArray) :
    (∃ (v : Option Value) (vm₁ : Vm) (B : Pt), s.WarmedH vm₁ ∧ Stand p l e R s m args below meth c B.U B.locs B.cells B.slots ∧ Post ⟨T.setVm vm₁, locs, cells, slots⟩ argsL.toArray v B ∧
      ∀ target, Steps p.tables e below (B.U.setTop { g with pc := g.pc + 3, stack := v.toList ++ rest }) target → Steps p.tables e below (T.setTop g) target) ∨
    (∃ (q : Addr) (vm₁ : Vm) (B : Pt), s.WarmedH vm₁ ∧ Stand p l e R s m args below meth c B.U B.locs B.cells B.slots ∧ PostX ⟨T.setVm vm₁, locs, cells, slots⟩ argsL.toArray q B ∧
      Steps p.tables e below (T.setTop g) ((B.U.setTop { g with stack := rest }).pushFrame (.throwing q))) := by
  obtain ⟨mk, hnamed⟩ := Cond.code_named hcode
  obtain ⟨methM, cM, hmethM, -, -, -, -, -, -, hsigM⟩ := Cond.code_spec hnamed hcode
  have hstatic : methM.isStatic = true := Cond.static_spec hnamed hmethM hstat
  obtain ⟨kP, hkP, -⟩ := className_of_methodNamed hnamed
  have hinitP : kP.init = .initialized := Cond.initialized_spec (findClass_of_methodNamed hnamed) hkP hinit
  obtain ⟨vm₁, X₁, hstep₁⟩ := X.invokestatic hexec hown hlink hnamed hmethM hstatic hkP hinitP hy (g := g) hg (argsL := argsL) (rest := rest) (hlen _ hsigM) hstack hdg
  rcases hK m meth c ⟨T.setVm vm₁, locs, cells, slots⟩ { g with stack := rest } (.invokestatic index) mk argsL.toArray X₁ hg hsize hdg hW (X₁.named hnamed) (hpre vm₁ X₁.warmed) with ⟨v, B, X', hpost, hsteps⟩ | ⟨q, B, X', hpost, hsteps⟩
  · exact Or.inl ⟨v, vm₁, B, X₁.warmed, X', hpost, fun target h => hstep₁ _ fun acts => by rw [doInvoke_state]; exact hsteps.trans h⟩
  · exact Or.inr ⟨q, vm₁, B, X₁.warmed, X', hpost, hstep₁ _ fun acts => by rw [doInvoke_state]; exact hsteps⟩
end Calls
theorem vx_cls {s : State} {T : State} {vm₁ : Vm} {E : String} {k : ClassId} (hW : s.WarmedH vm₁) (h : (T.setVm vm₁).vm.findClass E = some k) : s.vm.findClass E = some k := by
  have h1 : vm₁.findClass E = some k := h
  rw [hW.alike.findClass] at h1
  exact h1
/-- the method's frame g, with q thrown over it -/
def vx_W (p : Program) (l : Launch) (e : Env) (R : Room) (s : State) (m : MethodId) (args : Array Value) (below : List Frame) (meth : Method) (c : Code) (H : Heap) (locs : List Loc) (cells slots : Nat) (Q : State → Prop) (g : JFrame) (q : Addr) : Prop :=
  ∀ T : State, T.heap = H → Stand p l e R s m args below meth c T locs cells slots → ∃ t, Steps p.tables e below ((T.setTop g).pushFrame (.throwing q)) t ∧ Q t
def vx_Run (p : Program) (l : Launch) (e : Env) (R : Room) (s : State) (m : MethodId) (args : Array Value) (below : List Frame) (meth : Method) (c : Code) (H : Heap) (locs : List Loc) (cells slots mc ms : Nat) (g : JFrame) (rest : List Value) (Qa : State → Outcome → State → Prop) (XC : String → State → State → Prop) (free : Addr → Prop) : Prop :=
  ∀ T : State, T.heap = H → Stand p l e R s m args below meth c T locs cells slots →
    (∃ (v : Option Value) (st₀ t T' : State) (L : List Loc), st₀.heap = H ∧ Stand p l e R s m args below meth c T' (locs ++ L) (cells + mc) (slots + ms) ∧ (∀ q ∈ L, free q.base) ∧ T'.heap = t.heap ∧ T'.vm = t.vm ∧ Qa st₀ (.returned v) t ∧
      Goes p e below T g T' { g with pc := g.pc + 3, stack := v.toList ++ rest }) ∨
    (∃ (q : Addr) (st₀ t T' : State) (L : List Loc) (E : String) (ce : Cell), st₀.heap = H ∧ Stand p l e R s m args below meth c T' (locs ++ L) (cells + mc) (slots + ms) ∧ (∀ z ∈ L, free z.base) ∧ T'.heap = t.heap ∧ T'.vm = t.vm ∧ XC E st₀ t ∧ t.heap[q]? = some ce ∧ ce.vm = .none ∧ s.vm.findClass E = some ce.cls ∧
      Steps p.tables e below (T.setTop g) ((T'.setTop { g with stack := rest }).pushFrame (.throwing q)))
def vx_X {S : Type} (px : S → Prop) (B : String → S → State → Prop) (A : Nat → Prop) : String → State → State → Prop := fun E st t => ∃ u : S, px u ∧ B E u t ∧ va_F A st t
section Runs
variable {p : Program} {l : Launch} {e : Env} {R : Room} {s : State} {m : MethodId} {args : Array Value} {below : List Frame} {meth : Method} {c : Code} {H : Heap} {locs : List Loc} {cells slots : Nat}
variable {y : MethodName} {bytes cc : ByteArray} {maxL nL mc ms n index : Nat} {ret : Option FieldType} {ws : List Cond} {rm : Room} {Pc : Array Value → State → Prop} {Qc : Array Value → State → Outcome → State → Prop} {XC : String → State → State → Prop} {free : Addr → Prop} {Ts : List Cond} {own C : String} {b : Addr} {As rest : List Value} {g : JFrame}
theorem vx_callBack (cb : CallB R s args own index y bytes maxL ret ws rm mc ms n) (hM : vx_Met l y ws rm Pc Qc XC mc ms free) (hbl : FrameBlind Pc) : vx_Back l R p e below s args y 3 8 (PreOf R mc ms Pc) (PostOf Qc mc ms free) (vx_Post XC mc ms free) := by
  obtain ⟨hrc, hrs, hfr, hlo, hws, hcw, -, hini, -⟩ := cb
  exact vx_back (bytes := bytes) (maxL := maxL) (ret := ret) hM hbl hrc hrs hfr hlo hws hcw (fun a' U hW => word_at hW (Or.inl (by first | rfl | simp [Cond.onTables, Cond.keeps, Cond.steady])) hini)
theorem vx_runV (S : CallFix p m c cc nL s args Ts own) (hM : vx_Met l y ws rm Pc Qc XC mc ms free) (cw : CallW R s args own C index y bytes maxL ret ws rm mc ms n) (hp : PreV s H C b Pc As)
    (hg : g.method = m) (hn : As.length = n) (hsize : g.locals.size = nL) (hstack : g.stack = As.reverse ++ .ref b :: rest) (hW : 2 * g.monitorRoom + (rest.map fun v => v.category).sum ≤ 8) (hdg : decode cc g.pc = .ok (.invokevirtual index, 3)) (hf : cells + mc ≤ R.cells ∧ slots + ms ≤ R.slots) :
    vx_Run p l e R s m args below meth c H locs cells slots mc ms g rest (Qc (Value.ref b :: As).toArray) XC free := by
  have hK : vx_Back l R p e below s args y 3 8 (PreOf R mc ms Pc) (PostOf Qc mc ms free) (vx_Post XC mc ms free) := vx_callBack cw.1 hM hp.1
  obtain ⟨⟨-, -, -, -, -, -, hcode, -, hy, hlen, hl⟩, hin, hse⟩ := cw
  obtain ⟨hx, hb, hml, ho, -⟩ := S
  obtain ⟨-, ⟨cellB, hcB, hoB, hclB⟩, hPc⟩ := hp
  intro T hT X
  rcases vx_callV X hx (C := C) (bytes := bytes) (maxL := maxL) (ret := ret) ho hl hin hse hcode hy hK (by rw [hT]; exact hcB) hoB hclB hg (hsize.trans hml.symm) (argsL := As) (rest := rest) (fun sig h => hn.trans (hlen sig h)) hstack hW (by rw [hb]; exact hdg)
    (fun vm₁ hW₁ => ⟨hf.1, hf.2, hPc (T.setVm vm₁) hT hW₁⟩) with ⟨v, vm₁, ⟨U', l2, c2, s2⟩, hW₁, X', ⟨g', mk, t, L, e1, e2, hq, h1, hL, h2, h3⟩, st⟩ | ⟨q, vm₁, ⟨U', l2, c2, s2⟩, hW₁, X', ⟨g', mk, t, L, E, ce, e1, e2, hq, hce, hcv, hcl, h1, hL, h2, h3⟩, st⟩
  · dsimp only [Pt.U, Pt.locs, Pt.cells, Pt.slots] at X' e1 e2 h1 h2 h3 st
    subst h1; subst h2; subst h3
    exact Or.inl ⟨v, (T.setVm vm₁).calling g' mk (Value.ref b :: As).toArray, t, U', L, hT, X', hL, e1, e2, hq, st⟩
  · dsimp only [Pt.U, Pt.locs, Pt.cells, Pt.slots] at X' e1 e2 h1 h2 h3 st hcl
    subst h1; subst h2; subst h3
    exact Or.inr ⟨q, (T.setVm vm₁).calling g' mk (Value.ref b :: As).toArray, t, U', L, E, ce, hT, X', hL, e1, e2, hq, hce, hcv, vx_cls hW₁ hcl, st⟩
theorem vx_runS (S : CallFix p m c cc nL s args Ts own) (hM : vx_Met l y ws rm Pc Qc XC mc ms free) (cw : CallB R s args own index y bytes maxL ret ws rm mc ms n ∧ (Cond.static y).before args s = true) (hp : PreS s H Pc As)
    (hg : g.method = m) (hn : As.length = n) (hsize : g.locals.size = nL) (hstack : g.stack = As.reverse ++ rest) (hW : 2 * g.monitorRoom + (rest.map fun v => v.category).sum ≤ 8) (hdg : decode cc g.pc = .ok (.invokestatic index, 3)) (hf : cells + mc ≤ R.cells ∧ slots + ms ≤ R.slots) :
    vx_Run p l e R s m args below meth c H locs cells slots mc ms g rest (Qc As.toArray) XC free := by
  have hK : vx_Back l R p e below s args y 3 8 (PreOf R mc ms Pc) (PostOf Qc mc ms free) (vx_Post XC mc ms free) := vx_callBack cw.1 hM hp.1
  obtain ⟨⟨-, -, -, -, -, -, hcode, hini, hy, hlen, hl⟩, hstt⟩ := cw
  obtain ⟨hx, hb, hml, ho, -⟩ := S
  intro T hT X
  rcases vx_callS X hx (bytes := bytes) (maxL := maxL) (ret := ret) ho hl hstt hini hcode hy hK hg (hsize.trans hml.symm) (argsL := As) (rest := rest) (fun sig h => hn.trans (hlen sig h)) hstack hW (by rw [hb]; exact hdg)
    (fun vm₁ hW₁ => ⟨hf.1, hf.2, hp.2 (T.setVm vm₁) hT hW₁⟩) with ⟨v, vm₁, ⟨U', l2, c2, s2⟩, hW₁, X', ⟨g', mk, t, L, e1, e2, hq, h1, hL, h2, h3⟩, st⟩ | ⟨q, vm₁, ⟨U', l2, c2, s2⟩, hW₁, X', ⟨g', mk, t, L, E, ce, e1, e2, hq, hce, hcv, hcl, h1, hL, h2, h3⟩, st⟩
  · dsimp only [Pt.U, Pt.locs, Pt.cells, Pt.slots] at X' e1 e2 h1 h2 h3 st
    subst h1; subst h2; subst h3
    exact Or.inl ⟨v, (T.setVm vm₁).calling g' mk As.toArray, t, U', L, hT, X', hL, e1, e2, hq, st⟩
  · dsimp only [Pt.U, Pt.locs, Pt.cells, Pt.slots] at X' e1 e2 h1 h2 h3 st hcl
    subst h1; subst h2; subst h3
    exact Or.inr ⟨q, (T.setVm vm₁).calling g' mk As.toArray, t, U', L, E, ce, hT, X', hL, e1, e2, hq, hce, hcv, vx_cls hW₁ hcl, st⟩
end Runs
section Rows
variable {p : Program} {l : Launch} {e : Env} {R : Room} {s : State} {m : MethodId} {args : Array Value} {below : List Frame} {meth : Method} {c : Code} {H : Heap} {locs : List Loc} {cells slots : Nat} {Q : State → Prop}
variable {mc ms : Nat} {free : Addr → Prop} {A0 A1 : Nat → Prop} {H0 : Heap} {a : Array Value} {pc : Nat} {ls : Array Slot} {st0 rest : List Value}
theorem vx_keep {st₀ t T' : State} {L : List Loc} (h0 : st₀.heap = H) (e1 : T'.heap = t.heap) (hS : va_S A0 H0 H locs) (hA : ∀ q, q < H.size → A1 q → A0 q) (hf : ∀ q, free q → A0 q) (hL : ∀ q ∈ L, free q.base) (hF : va_F A1 st₀ t) :
    H.size ≤ T'.heap.size ∧ (∀ q : Nat, q < H.size → ¬ A1 q → T'.heap[q]? = H[q]?) ∧ va_S A0 H0 T'.heap (locs ++ L) := by
  obtain ⟨hz, hk⟩ := hF
  rw [h0] at hz hk
  exact ⟨by rw [e1]; exact hz, fun q h1 h2 => by rw [e1]; exact hk q h1 h2,
    ⟨Nat.le_trans hS.1 (by rw [e1]; exact hz), fun q h1 h2 => by rw [e1, hk q (Nat.lt_of_lt_of_le h1 hS.1) (fun z => h2 (hA q (Nat.lt_of_lt_of_le h1 hS.1) z))]; exact hS.2.1 q h1 h2, fun q hq => by
      rcases List.mem_append.mp hq with h | h
      · exact hS.2.2 q h
      · exact hf _ (hL q h)⟩⟩
theorem vx_calli {S SX : Type} {post : Int32 → S → Prop} {px : SX → Prop} {B : S → State → Prop} {BX : String → SX → State → Prop} {AX : Nat → Prop} (hr : vx_Run p l e R s m args below meth c H locs cells slots mc ms (F0 m pc ls st0) rest (va_Qi post B A1 a) (vx_X px BX AX) free) (hS : va_S A0 H0 H locs) (hA : ∀ q, q < H.size → A1 q → A0 q) (hf : ∀ q, free q → A0 q) (hAX : ∀ q, q < H.size → AX q → A0 q)
    (kx : ∀ (E : String) (ce : Cell) (q9 : Addr) (u : SX) (t : State) (H1 : Heap) (locs1 : List Loc), t.heap = H1 → s.vm.Alike t.vm → px u → BX E u t → H.size ≤ H1.size → (∀ q : Nat, q < H.size → ¬ AX q → H1[q]? = H[q]?) → va_S A0 H0 H1 locs1 → H1[q9]? = some ce → ce.vm = .none → s.vm.findClass E = some ce.cls → vx_W p l e R s m args below meth c H1 locs1 (cells + mc) (slots + ms) Q (F0 m pc ls rest) q9)
    (kk : ∀ (r : Int32) (u : S) (t : State) (H1 : Heap) (locs1 : List Loc), t.heap = H1 → s.vm.Alike t.vm → post r u → B u t → H.size ≤ H1.size → (∀ q : Nat, q < H.size → ¬ A1 q → H1[q]? = H[q]?) → va_S A0 H0 H1 locs1 → W p l e R s m args below meth c H1 locs1 (cells + mc) (slots + ms) Q (F0 m (pc + 3) ls (.int r :: rest))) : W p l e R s m args below meth c H locs cells slots Q (F0 m pc ls st0) := by
  intro T hT X
  rcases hr T hT X with ⟨v, st₀, t, T', L, h0, X', hL, e1, e2, ⟨⟨r, u, hv, hp, hb⟩, hF⟩, st⟩ | ⟨q, st₀, t, T', L, E, ce, h0, X', hL, e1, e2, ⟨u, hp, hb, hF⟩, hce, hcv, hcl, st⟩
  · cases hv
    obtain ⟨k1, k2, k3⟩ := vx_keep h0 e1 hS hA hf hL hF
    obtain ⟨t2, a1, b1⟩ := kk r u t T'.heap (locs ++ L) e1.symm (by rw [← e2]; exact X'.warmed.alike) hp hb k1 k2 k3 T' rfl X'
    exact ⟨t2, st t2 a1, b1⟩
  · obtain ⟨k1, k2, k3⟩ := vx_keep h0 e1 hS hAX hf hL hF
    obtain ⟨t2, a1, b1⟩ := kx E ce q u t T'.heap (locs ++ L) e1.symm (by rw [← e2]; exact X'.warmed.alike) hp hb k1 k2 k3 (by rw [e1]; exact hce) hcv hcl T' rfl X'
    exact ⟨t2, st.trans a1, b1⟩
theorem vx_calll {S SX : Type} {post : Int64 → S → Prop} {px : SX → Prop} {B : S → State → Prop} {BX : String → SX → State → Prop} {AX : Nat → Prop} (hr : vx_Run p l e R s m args below meth c H locs cells slots mc ms (F0 m pc ls st0) rest (va_Ql post B A1 a) (vx_X px BX AX) free) (hS : va_S A0 H0 H locs) (hA : ∀ q, q < H.size → A1 q → A0 q) (hf : ∀ q, free q → A0 q) (hAX : ∀ q, q < H.size → AX q → A0 q)
    (kx : ∀ (E : String) (ce : Cell) (q9 : Addr) (u : SX) (t : State) (H1 : Heap) (locs1 : List Loc), t.heap = H1 → s.vm.Alike t.vm → px u → BX E u t → H.size ≤ H1.size → (∀ q : Nat, q < H.size → ¬ AX q → H1[q]? = H[q]?) → va_S A0 H0 H1 locs1 → H1[q9]? = some ce → ce.vm = .none → s.vm.findClass E = some ce.cls → vx_W p l e R s m args below meth c H1 locs1 (cells + mc) (slots + ms) Q (F0 m pc ls rest) q9)
    (kk : ∀ (r : Int64) (u : S) (t : State) (H1 : Heap) (locs1 : List Loc), t.heap = H1 → s.vm.Alike t.vm → post r u → B u t → H.size ≤ H1.size → (∀ q : Nat, q < H.size → ¬ A1 q → H1[q]? = H[q]?) → va_S A0 H0 H1 locs1 → W p l e R s m args below meth c H1 locs1 (cells + mc) (slots + ms) Q (F0 m (pc + 3) ls (.long r :: rest))) : W p l e R s m args below meth c H locs cells slots Q (F0 m pc ls st0) := by
  intro T hT X
  rcases hr T hT X with ⟨v, st₀, t, T', L, h0, X', hL, e1, e2, ⟨⟨r, u, hv, hp, hb⟩, hF⟩, st⟩ | ⟨q, st₀, t, T', L, E, ce, h0, X', hL, e1, e2, ⟨u, hp, hb, hF⟩, hce, hcv, hcl, st⟩
  · cases hv
    obtain ⟨k1, k2, k3⟩ := vx_keep h0 e1 hS hA hf hL hF
    obtain ⟨t2, a1, b1⟩ := kk r u t T'.heap (locs ++ L) e1.symm (by rw [← e2]; exact X'.warmed.alike) hp hb k1 k2 k3 T' rfl X'
    exact ⟨t2, st t2 a1, b1⟩
  · obtain ⟨k1, k2, k3⟩ := vx_keep h0 e1 hS hAX hf hL hF
    obtain ⟨t2, a1, b1⟩ := kx E ce q u t T'.heap (locs ++ L) e1.symm (by rw [← e2]; exact X'.warmed.alike) hp hb k1 k2 k3 (by rw [e1]; exact hce) hcv hcl T' rfl X'
    exact ⟨t2, st.trans a1, b1⟩
theorem vx_callf {S SX : Type} {post : UInt32 → S → Prop} {px : SX → Prop} {B : S → State → Prop} {BX : String → SX → State → Prop} {AX : Nat → Prop} (hr : vx_Run p l e R s m args below meth c H locs cells slots mc ms (F0 m pc ls st0) rest (va_Qf post B A1 a) (vx_X px BX AX) free) (hS : va_S A0 H0 H locs) (hA : ∀ q, q < H.size → A1 q → A0 q) (hf : ∀ q, free q → A0 q) (hAX : ∀ q, q < H.size → AX q → A0 q)
    (kx : ∀ (E : String) (ce : Cell) (q9 : Addr) (u : SX) (t : State) (H1 : Heap) (locs1 : List Loc), t.heap = H1 → s.vm.Alike t.vm → px u → BX E u t → H.size ≤ H1.size → (∀ q : Nat, q < H.size → ¬ AX q → H1[q]? = H[q]?) → va_S A0 H0 H1 locs1 → H1[q9]? = some ce → ce.vm = .none → s.vm.findClass E = some ce.cls → vx_W p l e R s m args below meth c H1 locs1 (cells + mc) (slots + ms) Q (F0 m pc ls rest) q9)
    (kk : ∀ (r : UInt32) (u : S) (t : State) (H1 : Heap) (locs1 : List Loc), t.heap = H1 → s.vm.Alike t.vm → post r u → B u t → H.size ≤ H1.size → (∀ q : Nat, q < H.size → ¬ A1 q → H1[q]? = H[q]?) → va_S A0 H0 H1 locs1 → W p l e R s m args below meth c H1 locs1 (cells + mc) (slots + ms) Q (F0 m (pc + 3) ls (.float r :: rest))) : W p l e R s m args below meth c H locs cells slots Q (F0 m pc ls st0) := by
  intro T hT X
  rcases hr T hT X with ⟨v, st₀, t, T', L, h0, X', hL, e1, e2, ⟨⟨r, u, hv, hp, hb⟩, hF⟩, st⟩ | ⟨q, st₀, t, T', L, E, ce, h0, X', hL, e1, e2, ⟨u, hp, hb, hF⟩, hce, hcv, hcl, st⟩
  · cases hv
    obtain ⟨k1, k2, k3⟩ := vx_keep h0 e1 hS hA hf hL hF
    obtain ⟨t2, a1, b1⟩ := kk r u t T'.heap (locs ++ L) e1.symm (by rw [← e2]; exact X'.warmed.alike) hp hb k1 k2 k3 T' rfl X'
    exact ⟨t2, st t2 a1, b1⟩
  · obtain ⟨k1, k2, k3⟩ := vx_keep h0 e1 hS hAX hf hL hF
    obtain ⟨t2, a1, b1⟩ := kx E ce q u t T'.heap (locs ++ L) e1.symm (by rw [← e2]; exact X'.warmed.alike) hp hb k1 k2 k3 (by rw [e1]; exact hce) hcv hcl T' rfl X'
    exact ⟨t2, st.trans a1, b1⟩
theorem vx_calld {S SX : Type} {post : UInt64 → S → Prop} {px : SX → Prop} {B : S → State → Prop} {BX : String → SX → State → Prop} {AX : Nat → Prop} (hr : vx_Run p l e R s m args below meth c H locs cells slots mc ms (F0 m pc ls st0) rest (va_Qd post B A1 a) (vx_X px BX AX) free) (hS : va_S A0 H0 H locs) (hA : ∀ q, q < H.size → A1 q → A0 q) (hf : ∀ q, free q → A0 q) (hAX : ∀ q, q < H.size → AX q → A0 q)
    (kx : ∀ (E : String) (ce : Cell) (q9 : Addr) (u : SX) (t : State) (H1 : Heap) (locs1 : List Loc), t.heap = H1 → s.vm.Alike t.vm → px u → BX E u t → H.size ≤ H1.size → (∀ q : Nat, q < H.size → ¬ AX q → H1[q]? = H[q]?) → va_S A0 H0 H1 locs1 → H1[q9]? = some ce → ce.vm = .none → s.vm.findClass E = some ce.cls → vx_W p l e R s m args below meth c H1 locs1 (cells + mc) (slots + ms) Q (F0 m pc ls rest) q9)
    (kk : ∀ (r : UInt64) (u : S) (t : State) (H1 : Heap) (locs1 : List Loc), t.heap = H1 → s.vm.Alike t.vm → post r u → B u t → H.size ≤ H1.size → (∀ q : Nat, q < H.size → ¬ A1 q → H1[q]? = H[q]?) → va_S A0 H0 H1 locs1 → W p l e R s m args below meth c H1 locs1 (cells + mc) (slots + ms) Q (F0 m (pc + 3) ls (.double r :: rest))) : W p l e R s m args below meth c H locs cells slots Q (F0 m pc ls st0) := by
  intro T hT X
  rcases hr T hT X with ⟨v, st₀, t, T', L, h0, X', hL, e1, e2, ⟨⟨r, u, hv, hp, hb⟩, hF⟩, st⟩ | ⟨q, st₀, t, T', L, E, ce, h0, X', hL, e1, e2, ⟨u, hp, hb, hF⟩, hce, hcv, hcl, st⟩
  · cases hv
    obtain ⟨k1, k2, k3⟩ := vx_keep h0 e1 hS hA hf hL hF
    obtain ⟨t2, a1, b1⟩ := kk r u t T'.heap (locs ++ L) e1.symm (by rw [← e2]; exact X'.warmed.alike) hp hb k1 k2 k3 T' rfl X'
    exact ⟨t2, st t2 a1, b1⟩
  · obtain ⟨k1, k2, k3⟩ := vx_keep h0 e1 hS hAX hf hL hF
    obtain ⟨t2, a1, b1⟩ := kx E ce q u t T'.heap (locs ++ L) e1.symm (by rw [← e2]; exact X'.warmed.alike) hp hb k1 k2 k3 (by rw [e1]; exact hce) hcv hcl T' rfl X'
    exact ⟨t2, st.trans a1, b1⟩
theorem vx_callv {S SX : Type} {post : S → Prop} {px : SX → Prop} {B : S → State → Prop} {BX : String → SX → State → Prop} {AX : Nat → Prop} (hr : vx_Run p l e R s m args below meth c H locs cells slots mc ms (F0 m pc ls st0) rest (va_Qv post B A1 a) (vx_X px BX AX) free) (hS : va_S A0 H0 H locs) (hA : ∀ q, q < H.size → A1 q → A0 q) (hf : ∀ q, free q → A0 q) (hAX : ∀ q, q < H.size → AX q → A0 q)
    (kx : ∀ (E : String) (ce : Cell) (q9 : Addr) (u : SX) (t : State) (H1 : Heap) (locs1 : List Loc), t.heap = H1 → s.vm.Alike t.vm → px u → BX E u t → H.size ≤ H1.size → (∀ q : Nat, q < H.size → ¬ AX q → H1[q]? = H[q]?) → va_S A0 H0 H1 locs1 → H1[q9]? = some ce → ce.vm = .none → s.vm.findClass E = some ce.cls → vx_W p l e R s m args below meth c H1 locs1 (cells + mc) (slots + ms) Q (F0 m pc ls rest) q9)
    (kk : ∀ (u : S) (t : State) (H1 : Heap) (locs1 : List Loc), t.heap = H1 → s.vm.Alike t.vm → post u → B u t → H.size ≤ H1.size → (∀ q : Nat, q < H.size → ¬ A1 q → H1[q]? = H[q]?) → va_S A0 H0 H1 locs1 → W p l e R s m args below meth c H1 locs1 (cells + mc) (slots + ms) Q (F0 m (pc + 3) ls (rest))) : W p l e R s m args below meth c H locs cells slots Q (F0 m pc ls st0) := by
  intro T hT X
  rcases hr T hT X with ⟨v, st₀, t, T', L, h0, X', hL, e1, e2, ⟨⟨u, hv, hp, hb⟩, hF⟩, st⟩ | ⟨q, st₀, t, T', L, E, ce, h0, X', hL, e1, e2, ⟨u, hp, hb, hF⟩, hce, hcv, hcl, st⟩
  · cases hv
    obtain ⟨k1, k2, k3⟩ := vx_keep h0 e1 hS hA hf hL hF
    obtain ⟨t2, a1, b1⟩ := kk u t T'.heap (locs ++ L) e1.symm (by rw [← e2]; exact X'.warmed.alike) hp hb k1 k2 k3 T' rfl X'
    exact ⟨t2, st t2 a1, b1⟩
  · obtain ⟨k1, k2, k3⟩ := vx_keep h0 e1 hS hAX hf hL hF
    obtain ⟨t2, a1, b1⟩ := kx E ce q u t T'.heap (locs ++ L) e1.symm (by rw [← e2]; exact X'.warmed.alike) hp hb k1 k2 k3 (by rw [e1]; exact hce) hcv hcl T' rfl X'
    exact ⟨t2, st.trans a1, b1⟩
/-- caught by the row x of this method's table; the rows ahead don't take it -/
theorem vx_catch {own name : String} {E : String} {ce : Cell} {q : Addr} (hown : s.vm.findClass own = some m.cls) (pre : List ExceptionTableEntry) (x : ExceptionTableEntry) (suf : List ExceptionTableEntry) (hsplit : c.exceptionTable.toList = pre ++ x :: suf)
    (hpass : ∀ z ∈ pre, covers z pc = false ∨ (z.catchType ≠ 0 ∧ ∃ nm : String, (Cond.classLink own z.catchType nm).before args s = true ∧ va_Nc E nm s)) (hx : covers x pc = true) (h0 : x.catchType ≠ 0)
    (hlink : (Cond.classLink own x.catchType name).before args s = true) (hcast : (Cond.castable E name).before args s = true) (hcell : H[q]? = some ce) (hv : ce.vm = .none) (hcl : s.vm.findClass E = some ce.cls)
    (kk : W p l e R s m args below meth c H locs cells slots Q (F0 m x.handlerPc ls [.ref q])) : vx_W p l e R s m args below meth c H locs cells slots Q (F0 m pc ls rest) q := by
  intro T hT X
  have hpl : e.platform.magicAccessors = ({} : Platform).magicAccessors := by rw [X.admits.platform]
  obtain ⟨c3, c4, hc3, hc4, hasg⟩ := Cond.castable_spec hcast
  cases Option.some.inj (hc3.symm.trans hcl)
  obtain ⟨c5, hc5, hcl5⟩ := Cond.classLink_spec hown hlink e.platform hpl
  cases Option.some.inj (hc4.symm.trans hc5)
  obtain ⟨vm', X', st⟩ := X.thenCaughtThrough q (g := F0 m pc ls rest) rfl (Steps.refl _) (by rw [hT]; exact hcell) (by rw [hv]; rfl) (by obtain ⟨k9, h9, -⟩ := Vm.findClass_spec hcl; exact ⟨k9, h9⟩) pre x suf hsplit
    (fun z hz => by
      rcases hpass z hz with h | ⟨hz0, nm, hl1, hn1⟩
      · exact Or.inl h
      · obtain ⟨c6, hc6, hcl6⟩ := Cond.classLink_spec hown hl1 e.platform hpl
        obtain ⟨a8, b8, h1, h2, h3⟩ := hn1
        cases Option.some.inj (h1.symm.trans hcl)
        cases Option.some.inj (h2.symm.trans hc6)
        exact Or.inr ⟨hz0, _, hcl6, h3⟩) hx (Or.inr ⟨h0, c4, hcl5, hasg⟩)
  obtain ⟨t, a1, b1⟩ := kk (T.setVm vm') hT X'
  exact ⟨t, st.trans a1, b1⟩
end Rows
section Ends
variable {p : Program} {l : Launch} {e : Env} {R : Room} {s : State} {m : MethodId} {args : Array Value} {below : List Frame} {meth : Method} {c : Code} {H : Heap} {locs : List Loc} {cells slots : Nat} {Q : State → Prop}
variable {mc ms : Nat} {free : Addr → Prop} {A0 A1 : Nat → Prop} {H0 : Heap} {a : Array Value} {ls : Array Slot} {st0 rest : List Value}
variable {Qc : Array Value → State → Outcome → State → Prop} {XC : String → State → State → Prop}
/-- what a body that may throw owes at its end -/
def vx_MQ (below : List Frame) (Qc : Array Value → State → Outcome → State → Prop) (XC : String → State → State → Prop) (a : Array Value) (s : State) (mc ms : Nat) (free : Addr → Prop) : State → Prop := fun t =>
  ∃ o, t.status = .running ∧ Ended t below o ∧ vx_Q Qc XC mc ms free a s o t
theorem vx_ret {g : JFrame} {mc ms : Nat} (k : W p l e R s m args below meth c H locs cells slots (MQ below Qc args s mc ms free) g) : W p l e R s m args below meth c H locs cells slots (vx_MQ below Qc XC args s mc ms free) g := by
  intro T hT X
  obtain ⟨t, a1, o, b1, b2, b3, b4⟩ := k T hT X
  exact ⟨t, a1, o, b1, b2, Or.inl ⟨b3, b4⟩⟩
/-- not caught here: it goes on to the caller -/
theorem vx_widen {g : JFrame} {q : Addr} {k n : Nat} (h1 : cells ≤ k) (h2 : slots ≤ n) (kk : vx_W p l e R s m args below meth c H locs k n Q g q) : vx_W p l e R s m args below meth c H locs cells slots Q g q := fun T hT X => kk T hT (stand_widen X h1 h2)
theorem vx_out {pc : Nat} {E : String} {ce : Cell} {q : Addr} {mc ms : Nat} (hout : ∀ x ∈ c.exceptionTable.toList, covers x pc = false) (hlocks : meth.locks = false) (hcell : H[q]? = some ce) (hv : ce.vm = .none) (hcl : s.vm.findClass E = some ce.cls)
    (hx : ∀ t : State, t.heap = H → s.vm.Alike t.vm → XC E s t) (hf : ∀ z ∈ locs, free z.base) (hc : cells ≤ mc) (hs : slots ≤ ms) :
    vx_W p l e R s m args below meth c H locs cells slots (vx_MQ below Qc XC args s mc ms free) (F0 m pc ls rest) q := by
  intro T hT X
  obtain ⟨st1, hrun, hend, hW, hsm⟩ := X.leaveThrown q (g := F0 m pc ls rest) rfl rfl rfl hout hlocks
  have hcell9 : (T.setFrames (.throwing q :: below)).heap[q]? = some ce := by
    show T.heap[q]? = some ce
    rw [hT]; exact hcell
  exact ⟨_, st1, .threw q, hrun, hend, Or.inr ⟨q, rfl, E, ce, locs, hx _ hT hW.alike, hcell9, hv, hcl, hW, hsm.mono hc hs, hf⟩⟩
theorem vx_frame {U : State} {k n : Nat} (h : s.sameButNew ({ U with vm := s.vm } : State) locs k n) : s.heap.size ≤ U.heap.size ∧ ∀ q : Nat, q < s.heap.size → (∀ z ∈ locs, z.base ≠ q) → U.heap[q]? = s.heap[q]? := by
  obtain ⟨-, h2, -, -, -, h6⟩ := h
  refine ⟨h2, fun q hq hz => ?_⟩
  obtain ⟨c9, e1, e2, e3, e4⟩ := h6 q _ (Array.getElem?_eq_getElem hq)
  have hs : c9.slots = (s.heap[q]).slots := Array.ext_getElem? fun i => e4 i fun hm => hz _ hm rfl
  have h9 : c9 = s.heap[q] := by
    rw [hs] at e2
    exact e2
  have e5 : U.heap[q]? = some c9 := e1
  rw [e5, h9, Array.getElem?_eq_getElem hq]
/-- the words of a throw but the four that speak of the heap -/
def vx_no (w : Cond) : Bool := decide (w ≠ .isRef (.static Bundle.tN "UNASSIGNED_STACK" Bundle.steD)) && decide (w ≠ .isRef (.static Bundle.tN "SUPPRESSED_SENTINEL" Bundle.listD)) && decide (w ≠ .laysStatic Bundle.tN "UNASSIGNED_STACK" Bundle.steD) && decide (w ≠ .laysStatic Bundle.tN "SUPPRESSED_SENTINEL" Bundle.listD)
def vx_at0 (own : String) (ic : Nat) (X : String) (names : List String) : List Cond := (Bundle.ownAtoms0 own ic X names).filter vx_no
def vx_atS (own : String) (ic : Nat) (X : String) (names : List String) : List Cond := (Bundle.ownAtoms own ic X names).filter vx_no
/-- a word that the tables alone decide, or a good one -/
def vx_ot (w : Cond) : Bool := w.onTables || goodWord w
theorem vx_ot_at {args a' : Array Value} {s U : State} {w : Cond} (hW : s.WarmedH U.vm) (hvm : s.vm = U.vm) (hg : vx_ot w = true) (h : w.before args s = true) : w.before a' U = true := by
  simp only [vx_ot, Bool.or_eq_true] at hg
  rcases hg with hg | hg
  · exact va_tabs hg hvm h
  · exact word_at hW (good_of_word hg) h
/-- a list's words: the good ones out of the method's own list, the others by premises of their own -/
theorem vx_hat {args : Array Value} {s : State} {L B : List Cond} (h1 : ∀ w ∈ L.filter goodWord, w.before args s = true) (h2 : ∀ w ∈ L.filter (fun w => !goodWord w), w ∈ B) (h3 : ∀ w ∈ B, w.before args s = true) : ∀ w ∈ L, w.before args s = true := by
  intro w hw
  by_cases g : goodWord w = true
  · exact h1 w (List.mem_filter.mpr ⟨hw, g⟩)
  · refine h3 w (h2 w (List.mem_filter.mpr ⟨hw, ?_⟩))
    show (!goodWord w) = true
    cases hgw : goodWord w
    · rfl
    · exact absurd hgw g
theorem vx_c {args : Array Value} {s : State} {w : Cond} {B : List Cond} (h : w.before args s = true) (t : ∀ w ∈ B, w.before args s = true) : ∀ w' ∈ w :: B, w'.before args s = true := fun w' h' => (List.mem_cons.mp h').elim (fun e => by rw [e]; exact h) (t w')
theorem vx_n {args : Array Value} {s : State} : ∀ w ∈ ([] : List Cond), w.before args s = true := fun _ h => nomatch h
theorem vx_own {args : Array Value} {s : State} {L : List Cond} (h1 : ∀ w ∈ L.filter vx_no, w.before args s = true)
    (hU : (Cond.isRef (.static Bundle.tN "UNASSIGNED_STACK" Bundle.steD)).before args s = true) (hN : (Cond.isRef (.static Bundle.tN "SUPPRESSED_SENTINEL" Bundle.listD)).before args s = true)
    (lU : (Cond.laysStatic Bundle.tN "UNASSIGNED_STACK" Bundle.steD).before args s = true) (lN : (Cond.laysStatic Bundle.tN "SUPPRESSED_SENTINEL" Bundle.listD).before args s = true) : ∀ w ∈ L, w.before args s = true := by
  intro w hw
  by_cases e1 : w = .isRef (.static Bundle.tN "UNASSIGNED_STACK" Bundle.steD)
  · rw [e1]; exact hU
  · by_cases e2 : w = .isRef (.static Bundle.tN "SUPPRESSED_SENTINEL" Bundle.listD)
    · rw [e2]; exact hN
    · by_cases e3 : w = .laysStatic Bundle.tN "UNASSIGNED_STACK" Bundle.steD
      · rw [e3]; exact lU
      · by_cases e4 : w = .laysStatic Bundle.tN "SUPPRESSED_SENTINEL" Bundle.listD
        · rw [e4]; exact lN
        · exact h1 w (List.mem_filter.mpr ⟨hw, by unfold vx_no; rw [decide_eq_true e1, decide_eq_true e2, decide_eq_true e3, decide_eq_true e4]; rfl⟩)
/-- where a static field lies, its class's statics cell in H -/
def vx_L (C n d : String) (A : Nat → Prop) (U : State) (H : Heap) : Prop := ∃ (c : ClassId) (k : Class) (i : Nat) (f : Field) (a : Nat) (cell : Cell), U.vm.findClass C = some c ∧ U.fieldFound? C n d = some (c, k, i, f) ∧ f.isStatic = true ∧ k.statics = some a ∧ H[a]? = some cell ∧ cell.vm.isStatics = true ∧ cell.cls = c ∧ f.slot < cell.slots.size ∧ k.staticTypes[f.slot]? = some f.type ∧ ¬ A a
theorem vx_L.moved {C n d : String} {A : Nat → Prop} {u U : State} {H : Heap} (hvm : u.vm.Alike U.vm) (h : vx_L C n d A u H) : vx_L C n d A U H := by
  obtain ⟨c, k, i, f, a, cell, h1, h2, h3, h4, h5, h6, h7, h8, h9, h10⟩ := h
  obtain ⟨k', hi', he⟩ := State.fieldFound?_setVm hvm h2
  exact ⟨c, k', i, f, a, cell, by rw [hvm.findClass]; exact h1, hi', h3, by rw [he]; exact h4, h5, h6, h7, h8, by rw [he]; exact h9, h10⟩
theorem vx_L.kept {C n d : String} {A : Nat → Prop} {U : State} {H H1 : Heap} (h : vx_L C n d A U H) (hq : ∀ a : Nat, a < H.size → ¬ A a → H1[a]? = H[a]?) : vx_L C n d A U H1 := by
  obtain ⟨c, k, i, f, a, cell, h1, h2, h3, h4, h5, h6, h7, h8, h9, h10⟩ := h
  exact ⟨c, k, i, f, a, cell, h1, h2, h3, h4, by rw [hq a (Array.getElem?_eq_some_iff.mp h5).1 h10]; exact h5, h6, h7, h8, h9, h10⟩
theorem vx_L.narrow {C n d : String} {A B : Nat → Prop} {U : State} {H : Heap} (h : vx_L C n d A U H) (hAB : ∀ q, B q → A q) : vx_L C n d B U H := by
  obtain ⟨c, k, i, f, a, cell, h1, h2, h3, h4, h5, h6, h7, h8, h9, h10⟩ := h
  exact ⟨c, k, i, f, a, cell, h1, h2, h3, h4, h5, h6, h7, h8, h9, fun z => h10 (hAB _ z)⟩
theorem vx_L.word {C n d : String} {A : Nat → Prop} {s : State} {args : Array Value} (h : vx_L C n d A s s.heap) : (Cond.laysStatic C n d).before args s = true := by
  obtain ⟨c, k, i, f, a, cell, h1, h2, h3, h4, h5, h6, h7, h8, h9, -⟩ := h
  show (Cond.laysStatic C n d).holds args s none s [] = true
  exact Cond.laysStatic_of h1 h2 h3 h4 h5 h6 h7 h8 h9
/-- .. and what it holds: null or some reference -/
def vx_Zq (C n d : String) (A : Nat → Prop) (U : State) (H : Heap) : Prop := va_Zq C n d A U H ∧ vx_L C n d A U H
theorem vx_Zq.moved {C n d : String} {A : Nat → Prop} {u U : State} {H : Heap} (hvm : u.vm.Alike U.vm) (h : vx_Zq C n d A u H) : vx_Zq C n d A U H := ⟨va_Zq.moved hvm h.1, vx_L.moved hvm h.2⟩
theorem vx_Zq.kept {C n d : String} {A : Nat → Prop} {U : State} {H H1 : Heap} (h : vx_Zq C n d A U H) (hq : ∀ a : Nat, a < H.size → ¬ A a → H1[a]? = H[a]?) : vx_Zq C n d A U H1 := ⟨va_Zq.kept h.1 hq, vx_L.kept h.2 hq⟩
theorem vx_Zq.narrow {C n d : String} {A B : Nat → Prop} {U : State} {H : Heap} (h : vx_Zq C n d A U H) (hAB : ∀ q, B q → A q) : vx_Zq C n d B U H := ⟨va_Zq.narrow h.1 hAB, vx_L.narrow h.2 hAB⟩
theorem vx_Zqof {args : Array Value} {s : State} {C n d : String} {A : Nat → Prop} (hl : (Cond.laysStatic C n d).before args s = true) (hini : (Cond.initialized C).before args s = true) (h : (Cond.isRef (.static C n d)).before args s = true) (hA : ∀ a : Nat, a < s.heap.size → ¬ A a) : vx_Zq C n d A s s.heap := by
  refine ⟨va_Zqof hl hini h hA, ?_⟩
  obtain ⟨c, k, i, f, a, cell, h1, h2, h3, h4, h5, h6, h7, h8, h9⟩ := Cond.laysStatic_spec hl
  exact ⟨c, k, i, f, a, cell, h1, h2, h3, h4, h5, h6, h7, h8, h9, hA a (Array.getElem?_eq_some_iff.mp h5).1⟩
theorem vx_isRef {C n d : String} {v : Value} {A : Nat → Prop} {s : State} {args : Array Value} (h : va_Z C n d v A s s.heap) (hv : v.isRef = true) : (Cond.isRef (.static C n d)).before args s = true := by
  obtain ⟨cf, kf, fi, f, a, cell, h1, h2, h3, h4, h5, h6, h7, -⟩ := h
  have he : (Term.static C n d).eval args s none [] s = some v := by
    simp [Term.eval, State.fieldNamed?, h1, h2, h4, h5, h6, h7]
  simp only [Cond.before, Cond.holds, Cond.value, he]
  cases v <;> simp_all [Value.isRef]
theorem vx_isRefq {C n d : String} {A : Nat → Prop} {s : State} {args : Array Value} (h : va_Zq C n d A s s.heap) : (Cond.isRef (.static C n d)).before args s = true := by
  rcases h with h | ⟨t, h⟩
  · exact vx_isRef h rfl
  · exact vx_isRef h rfl
/-- the same frame, seen from here: as if the method were called anew in this heap -/
theorem vx_rebase {T : State} (X : Stand p l e R s m args below meth c T locs cells slots) {R' : Room} (hf : R'.frames ≤ R.frames) (hl : R'.locals ≤ R.locals) (hc : cells + R'.cells ≤ R.cells) (hs : slots + R'.slots ≤ R.slots) :
    Stand p l e R' ((T.setVm s.vm).setFrames (.invoking m args :: below)) m args below meth c T [] 0 0 := by
  have htop : (T.setVm s.vm).topJava?.isSome := X.here.top
  have hF : ((T.setVm s.vm).setFrames (.invoking m args :: below)).frames = .invoking m args :: below := State.frames_setFrames _ (State.cur_lt_of_top htop)
  obtain ⟨g₀, hg0⟩ := Option.isSome_iff_exists.mp htop
  obtain ⟨r, hr⟩ := State.topJava?_eq_some.mp hg0
  have hl9 : e.platform.stackLimits (T.setVm s.vm).me = e.platform.stackLimits s.me := X.limits
  have hb9 : (T.setVm s.vm).me.stackBytes = s.me.stackBytes := X.bytes
  refine ⟨X.admits, X.cas, X.clock, hF, ?_, X.hears, X.method, X.code, X.here, X.tail, X.warmed, ?_, ?_, ?_⟩
  · have h := X.room
    have hU : ((T.setVm s.vm).setFrames (.invoking m args :: below)).localsInUse = s.localsInUse := by
      rw [State.localsInUse_invoking hF (meth := meth) (c := c) X.method X.code, State.localsInUse_invoking X.frames X.method X.code]
    simp only [State.hasRoom, Bool.and_eq_true, decide_eq_true_eq] at h ⊢
    obtain ⟨⟨⟨⟨h1, h2, h3, h4, h5, h6⟩, h7⟩, h8⟩, h9⟩ := h
    rw [X.frames, List.length_cons] at h2 h3
    have q1 := X.heapSize
    have q2 := X.used
    simp only [hF, hU, List.length_cons, State.stackLimits_setFrames, State.stackBytes_setFrames, hl9, hb9]
    refine ⟨⟨⟨⟨by omega, by omega, by omega, by omega, by omega, h6⟩, ?_⟩, ?_⟩, X.book⟩
    · show T.heap.size + R'.cells ≤ e.platform.maxCells
      omega
    · show T.slotsUsed + R'.slots ≤ e.platform.maxSlots
      omega
  · rw [State.stackLimits_setFrames]; rfl
  · rw [State.stackBytes_setFrames]; rfl
  · refine ⟨?_, Nat.le_refl _, Nat.le_refl _, ?_, ?_, fun a c9 h9 => ⟨c9, h9, rfl, rfl, fun _ _ => rfl⟩⟩
    · obtain ⟨t, ht, -⟩ := State.frames_cons hr
      show T.setVm s.vm = { ((T.setVm s.vm).setFrames (.invoking m args :: below)).setFrames (T.setVm s.vm).frames with heap := T.heap, slotsUsed := T.slotsUsed }
      rw [State.setFrames_setFrames, State.setFrames_self ht]
      rfl
    · show T.slotsUsed = T.slotsUsed + ((T.heap.toList.drop T.heap.size).map (·.slots.size)).sum
      rw [List.drop_eq_nil_of_le (Nat.le_of_eq Array.length_toList)]
      rfl
    · show ((T.heap.toList.drop T.heap.size).map (·.slots.size)).sum ≤ 0
      rw [List.drop_eq_nil_of_le (Nat.le_of_eq Array.length_toList)]
      exact Nat.le_refl _
/-- 'throw new E()': new; dup; invokespecial; athrow -/
theorem vx_throw0 {cc : ByteArray} {pc : Nat} (hexec : p.tables.exec = Jvm.exec) (hb : c.code = cc) (hl : l.stackTraces = false) {own cls : String} {names : List String} {ik ic mc ms : Nat} {A : Nat → Prop}
    (hown : s.vm.findClass own = some m.cls) (hcls : Bundle.fit cls = true) (hnames : ∀ n ∈ names, Bundle.fit n = true)
    (hk : (Cond.classLink own ik cls).before args s = true) (hini : (Cond.initialized cls).before args s = true) (hat : ∀ w ∈ vx_at0 own ic cls names, w.before args s = true)
    (hgood : ∀ w ∈ Cond.classLink own ik cls :: Cond.initialized cls :: vx_at0 own ic cls names, vx_ot w = true)
    (hU : vx_Zq Bundle.tN "UNASSIGNED_STACK" Bundle.steD A s s.heap) (hN : vx_Zq Bundle.tN "SUPPRESSED_SENTINEL" Bundle.listD A s s.heap) (hS : va_S A s.heap H locs) (hsize : ls.size = c.maxLocals)
    (d0 : decode cc pc = .ok (.new ik, 3)) (d3 : decode cc (pc + 3) = .ok (.dup, 1)) (d4 : decode cc (pc + 4) = .ok (.invokespecial ic, 3)) (d7 : decode cc (pc + 7) = .ok (.athrow, 1))
    (hout : ∀ x ∈ c.exceptionTable.toList, covers x (pc + 7) = false)
    (hRframes : names.length + 3 < R.frames) (hRlocals : (rest.map fun v => v.category).sum + (13 * (names.length + 1) + 42) ≤ R.locals) (hRcells : cells + 1 ≤ R.cells) (hRslots : slots + 6 ≤ R.slots) (hlocks : meth.locks = false)
    (hx : ∀ t : State, s.vm.Alike t.vm → H.size ≤ t.heap.size → (∀ q : Nat, q < H.size → t.heap[q]? = H[q]?) → XC cls s t)
    (hf : ∀ z ∈ locs, free z.base) (hc : cells + 1 ≤ mc) (hs : slots + 6 ≤ ms) :
    W p l e R s m args below meth c H locs cells slots (vx_MQ below Qc XC args s mc ms free) (F0 m pc ls rest) := by
  intro T hT X
  have htr : e.platform.stackTraces = false := (show e.platform.stackTraces = l.stackTraces by rw [X.admits.platform]).trans hl
  have Y := vx_rebase X (R' := { frames := R.frames, locals := R.locals, cells := 1, slots := 6 }) (Nat.le_refl _) (Nat.le_refl _) hRcells hRslots
  obtain ⟨s', hA⟩ : ∃ z, z = (T.setVm s.vm).setFrames (.invoking m args :: below) := ⟨_, rfl⟩
  rw [← hA] at Y
  have hvm : s'.vm = s.vm := by rw [hA]; rfl
  have hhp : s'.heap = H := by rw [hA]; exact hT
  have hW0 : s.WarmedH s'.vm := by rw [hvm]; exact State.WarmedH.refl s
  have hat' : ∀ w ∈ vx_at0 own ic cls names, w.before args s' = true := fun w hw => vx_ot_at hW0 hvm.symm (hgood w (List.mem_cons_of_mem _ (List.mem_cons_of_mem _ hw))) (hat w hw)
  have hk' : (Cond.classLink own ik cls).before args s' = true := vx_ot_at hW0 hvm.symm (hgood _ List.mem_cons_self) hk
  have hini' : (Cond.initialized cls).before args s' = true := vx_ot_at hW0 hvm.symm (hgood _ (List.mem_cons_of_mem _ List.mem_cons_self)) hini
  have hU' : vx_Zq Bundle.tN "UNASSIGNED_STACK" Bundle.steD A s' s'.heap := by rw [hhp]; exact vx_Zq.moved hW0.alike (hU.kept hS.2.1)
  have hN' : vx_Zq Bundle.tN "SUPPRESSED_SENTINEL" Bundle.listD A s' s'.heap := by rw [hhp]; exact vx_Zq.moved hW0.alike (hN.kept hS.2.1)
  have h : ∀ w ∈ Bundle.ownAtoms0 own ic cls names, w.before args s' = true := vx_own hat' (vx_isRefq hU'.1) (vx_isRefq hN'.1) hU'.2.word hN'.2.word
  have hown' : s'.vm.findClass own = some m.cls := by rw [hvm]; exact hown
  have hins : (Cond.instantiable cls 6).before args s' = true := h _ (by simp [Bundle.ownAtoms0])
  obtain ⟨vm₁, cX, kX, hfX, hkX, -, -, X₁, st1⟩ := Y.newCold hexec (own := own) (C := cls) (index := ik) (n := 6) hown' hk' hins hini'
    (g := F0 m pc ls rest) rfl (by rw [hb]; exact d0) (Nat.le_refl _) (Nat.le_refl _)
  generalize hT1 : (T.setVm vm₁).pushCell { cls := cX, slots := kX.instanceTypes.map defaultValue, vm := .none } = T1 at X₁ st1
  have hcat : (Value.ref T.heap.size).category = 1 := rfl
  have hcellA : T1.heap[T.heap.size]? = some (freshCell cX kX) := by rw [← hT1]; exact State.heap_pushCell_size _ _
  have d3' : decode c.code (pc + 3) = .ok (.dup, 1) := by rw [hb]; exact d3
  obtain ⟨U, hsteps, hrun, hend, hW, hsame, ce, hce, hO⟩ := X₁.ctorThrow0 hexec htr (own := own) (cls := cls) (names := names) (ic := ic) hown' hcls hnames h (fun x hx => nomatch hx) hfX hkX hcellA (by rw [hhp, hT]; exact Nat.le_refl _)
    (g := { method := m, pc := pc + 4, locals := ls, stack := .ref T.heap.size :: .ref T.heap.size :: rest, locked := none }) rfl hsize rfl rfl (rest := rest) rfl
    (by rw [hb]; exact d4) (by rw [hb]; exact d7) hout hRframes (by simp only [List.map_cons, List.sum_cons, hcat]; omega) hlocks
  obtain ⟨f1, f2⟩ := vx_frame hsame
  rw [hhp] at f1 f2
  have hWs : s.WarmedH U.vm := State.WarmedH.trans hW0 hW
  have hcl : s.vm.findClass cls = some ce.cls := by
    have h9 := hO.cls
    rw [hvm] at h9
    exact h9
  have hall : s.sameButNew ({ U with vm := s.vm } : State) locs mc ms := by
    subst hA
    obtain ⟨e1, e2⟩ := hsame
    rw [State.setFrames_setFrames] at e1
    have h2 : (T.setVm s.vm).sameButNew ({ U with vm := s.vm } : State) [] (0 + 1) (0 + 6) := ⟨e1, e2⟩
    have h3 := X.same.trans h2
    rw [List.append_nil] at h3
    exact h3.mono hc hs
  refine ⟨U, ?_, .threw T.heap.size, hrun, hend, Or.inr ⟨T.heap.size, rfl, cls, ce, locs, hx U hWs.alike f1 (fun q hq => f2 q hq (fun z hz => nomatch hz)), hce, hO.vm, hcl, hWs, hall, hf⟩⟩
  refine st1 _ ?_
  show Steps p.tables e below (T1.setTop { method := m, pc := pc + 3, locals := ls, stack := .ref T.heap.size :: rest, locked := none }) _
  jvm_step X₁.here [X₁.here.top, hexec, d3', Value.category]
  exact hsteps
/-- 'throw new E("text")': new; dup; ldc; invokespecial; athrow -/
theorem vx_throwS {cc : ByteArray} {pc : Nat} (hexec : p.tables.exec = Jvm.exec) (hb : c.code = cc) (hl : l.stackTraces = false) {own cls text : String} {names : List String} {ik is ic mc ms sa : Nat} {A : Nat → Prop}
    (hown : s.vm.findClass own = some m.cls) (hcls : Bundle.fit cls = true) (hnames : ∀ n ∈ names, Bundle.fit n = true)
    (hk : (Cond.classLink own ik cls).before args s = true) (hini : (Cond.initialized cls).before args s = true) (hstr : vk_R own is text sa s) (hat : ∀ w ∈ vx_atS own ic cls names, w.before args s = true)
    (hgood : ∀ w ∈ Cond.classLink own ik cls :: Cond.initialized cls :: vx_atS own ic cls names, vx_ot w = true)
    (hU : vx_Zq Bundle.tN "UNASSIGNED_STACK" Bundle.steD A s s.heap) (hN : vx_Zq Bundle.tN "SUPPRESSED_SENTINEL" Bundle.listD A s s.heap) (hS : va_S A s.heap H locs) (hsize : ls.size = c.maxLocals)
    (d0 : decode cc pc = .ok (.new ik, 3)) (d3 : decode cc (pc + 3) = .ok (.dup, 1)) (d4 : decode cc (pc + 4) = .ok (.ldc is, 2)) (d6 : decode cc (pc + 6) = .ok (.invokespecial ic, 3)) (d9 : decode cc (pc + 9) = .ok (.athrow, 1))
    (hout : ∀ x ∈ c.exceptionTable.toList, covers x (pc + 9) = false)
    (hRframes : names.length + 3 < R.frames) (hRlocals : (rest.map fun v => v.category).sum + (13 * (names.length + 1) + 43) ≤ R.locals) (hRcells : cells + 1 ≤ R.cells) (hRslots : slots + 6 ≤ R.slots) (hlocks : meth.locks = false)
    (hx : ∀ t : State, s.vm.Alike t.vm → H.size ≤ t.heap.size → (∀ q : Nat, q < H.size → t.heap[q]? = H[q]?) → XC cls s t)
    (hf : ∀ z ∈ locs, free z.base) (hc : cells + 1 ≤ mc) (hs : slots + 6 ≤ ms) :
    W p l e R s m args below meth c H locs cells slots (vx_MQ below Qc XC args s mc ms free) (F0 m pc ls rest) := by
  intro T hT X
  have htr : e.platform.stackTraces = false := (show e.platform.stackTraces = l.stackTraces by rw [X.admits.platform]).trans hl
  have Y := vx_rebase X (R' := { frames := R.frames, locals := R.locals, cells := 1, slots := 6 }) (Nat.le_refl _) (Nat.le_refl _) hRcells hRslots
  obtain ⟨s', hA⟩ : ∃ z, z = (T.setVm s.vm).setFrames (.invoking m args :: below) := ⟨_, rfl⟩
  rw [← hA] at Y
  have hvm : s'.vm = s.vm := by rw [hA]; rfl
  have hhp : s'.heap = H := by rw [hA]; exact hT
  have hW0 : s.WarmedH s'.vm := by rw [hvm]; exact State.WarmedH.refl s
  have hat' : ∀ w ∈ vx_atS own ic cls names, w.before args s' = true := fun w hw => vx_ot_at hW0 hvm.symm (hgood w (List.mem_cons_of_mem _ (List.mem_cons_of_mem _ hw))) (hat w hw)
  have hk' : (Cond.classLink own ik cls).before args s' = true := vx_ot_at hW0 hvm.symm (hgood _ List.mem_cons_self) hk
  have hini' : (Cond.initialized cls).before args s' = true := vx_ot_at hW0 hvm.symm (hgood _ (List.mem_cons_of_mem _ List.mem_cons_self)) hini
  have hU' : vx_Zq Bundle.tN "UNASSIGNED_STACK" Bundle.steD A s' s'.heap := by rw [hhp]; exact vx_Zq.moved hW0.alike (hU.kept hS.2.1)
  have hN' : vx_Zq Bundle.tN "SUPPRESSED_SENTINEL" Bundle.listD A s' s'.heap := by rw [hhp]; exact vx_Zq.moved hW0.alike (hN.kept hS.2.1)
  have h : ∀ w ∈ Bundle.ownAtoms own ic cls names, w.before args s' = true := vx_own hat' (vx_isRefq hU'.1) (vx_isRefq hN'.1) hU'.2.word hN'.2.word
  have hown' : s'.vm.findClass own = some m.cls := by rw [hvm]; exact hown
  have hins : (Cond.instantiable cls 6).before args s' = true := h _ (by simp [Bundle.ownAtoms])
  obtain ⟨vm₁, cX, kX, hfX, hkX, -, -, X₁, st1⟩ := Y.newCold hexec (own := own) (C := cls) (index := ik) (n := 6) hown' hk' hins hini'
    (g := F0 m pc ls rest) rfl (by rw [hb]; exact d0) (Nat.le_refl _) (Nat.le_refl _)
  generalize hT1 : (T.setVm vm₁).pushCell { cls := cX, slots := kX.instanceTypes.map defaultValue, vm := .none } = T1 at X₁ st1
  have hcat : (Value.ref T.heap.size).category = 1 := rfl
  have hcellA : T1.heap[T.heap.size]? = some (freshCell cX kX) := by rw [← hT1]; exact State.heap_pushCell_size _ _
  have d3' : decode c.code (pc + 3) = .ok (.dup, 1) := by rw [hb]; exact d3
  have d4' : decode c.code (pc + 4) = .ok (.ldc is, 2) := by rw [hb]; exact d4
  have hstr' : vk_R own is text sa s' := vk_R.warm hW0 hstr
  obtain ⟨U, hsteps, hrun, hend, hW, hsame, ce, hce, hO⟩ := X₁.ctorThrowS hexec htr (own := own) (cls := cls) (names := names) (ic := ic) hown' hcls hnames h (fun x hx => nomatch hx) hfX hkX hcellA (by rw [hhp, hT]; exact Nat.le_refl _) (msg := .ref sa) rfl
    (g := { method := m, pc := pc + 6, locals := ls, stack := .ref sa :: .ref T.heap.size :: .ref T.heap.size :: rest, locked := none }) rfl hsize rfl rfl (rest := rest) rfl
    (by rw [hb]; exact d6) (by rw [hb]; exact d9) hout hRframes (by simp only [List.map_cons, List.sum_cons, hcat]; omega) hlocks
  obtain ⟨f1, f2⟩ := vx_frame hsame
  rw [hhp] at f1 f2
  have hWs : s.WarmedH U.vm := State.WarmedH.trans hW0 hW
  have hcl : s.vm.findClass cls = some ce.cls := by
    have h9 := hO.cls
    rw [hvm] at h9
    exact h9
  have hall : s.sameButNew ({ U with vm := s.vm } : State) locs mc ms := by
    subst hA
    obtain ⟨e1, e2⟩ := hsame
    rw [State.setFrames_setFrames] at e1
    have h2 : (T.setVm s.vm).sameButNew ({ U with vm := s.vm } : State) [] (0 + 1) (0 + 6) := ⟨e1, e2⟩
    have h3 := X.same.trans h2
    rw [List.append_nil] at h3
    exact h3.mono hc hs
  refine ⟨U, ?_, .threw T.heap.size, hrun, hend, Or.inr ⟨T.heap.size, rfl, cls, ce, locs, hx U hWs.alike f1 (fun q hq => f2 q hq (fun z hz => nomatch hz)), hce, hO.vm, hcl, hWs, hall, hf⟩⟩
  refine st1 _ ?_
  show Steps p.tables e below (T1.setTop { method := m, pc := pc + 3, locals := ls, stack := .ref T.heap.size :: rest, locked := none }) _
  jvm_step X₁.here [X₁.here.top, hexec, d3', Value.category]
  exact X₁.ldcString hexec (own := own) (text := text) (index := is) (a := sa) hown' hstr'.1 hstr'.2
    (g := { method := m, pc := pc + 4, locals := ls, stack := .ref T.heap.size :: .ref T.heap.size :: rest, locked := none }) rfl d4' _ hsteps
/-- 'throw new E("text")', the text by a wide index -/
theorem vx_throwSW {cc : ByteArray} {pc : Nat} (hexec : p.tables.exec = Jvm.exec) (hb : c.code = cc) (hl : l.stackTraces = false) {own cls text : String} {names : List String} {ik is ic mc ms sa : Nat} {A : Nat → Prop}
    (hown : s.vm.findClass own = some m.cls) (hcls : Bundle.fit cls = true) (hnames : ∀ n ∈ names, Bundle.fit n = true)
    (hk : (Cond.classLink own ik cls).before args s = true) (hini : (Cond.initialized cls).before args s = true) (hstr : vk_R own is text sa s) (hat : ∀ w ∈ vx_atS own ic cls names, w.before args s = true)
    (hgood : ∀ w ∈ Cond.classLink own ik cls :: Cond.initialized cls :: vx_atS own ic cls names, vx_ot w = true)
    (hU : vx_Zq Bundle.tN "UNASSIGNED_STACK" Bundle.steD A s s.heap) (hN : vx_Zq Bundle.tN "SUPPRESSED_SENTINEL" Bundle.listD A s s.heap) (hS : va_S A s.heap H locs) (hsize : ls.size = c.maxLocals)
    (d0 : decode cc pc = .ok (.new ik, 3)) (d3 : decode cc (pc + 3) = .ok (.dup, 1)) (d4 : decode cc (pc + 4) = .ok (.ldc_w is, 3)) (d7 : decode cc (pc + 7) = .ok (.invokespecial ic, 3)) (d10 : decode cc (pc + 10) = .ok (.athrow, 1))
    (hout : ∀ x ∈ c.exceptionTable.toList, covers x (pc + 10) = false)
    (hRframes : names.length + 3 < R.frames) (hRlocals : (rest.map fun v => v.category).sum + (13 * (names.length + 1) + 43) ≤ R.locals) (hRcells : cells + 1 ≤ R.cells) (hRslots : slots + 6 ≤ R.slots) (hlocks : meth.locks = false)
    (hx : ∀ t : State, s.vm.Alike t.vm → H.size ≤ t.heap.size → (∀ q : Nat, q < H.size → t.heap[q]? = H[q]?) → XC cls s t)
    (hf : ∀ z ∈ locs, free z.base) (hc : cells + 1 ≤ mc) (hs : slots + 6 ≤ ms) :
    W p l e R s m args below meth c H locs cells slots (vx_MQ below Qc XC args s mc ms free) (F0 m pc ls rest) := by
  intro T hT X
  have htr : e.platform.stackTraces = false := (show e.platform.stackTraces = l.stackTraces by rw [X.admits.platform]).trans hl
  have Y := vx_rebase X (R' := { frames := R.frames, locals := R.locals, cells := 1, slots := 6 }) (Nat.le_refl _) (Nat.le_refl _) hRcells hRslots
  obtain ⟨s', hA⟩ : ∃ z, z = (T.setVm s.vm).setFrames (.invoking m args :: below) := ⟨_, rfl⟩
  rw [← hA] at Y
  have hvm : s'.vm = s.vm := by rw [hA]; rfl
  have hhp : s'.heap = H := by rw [hA]; exact hT
  have hW0 : s.WarmedH s'.vm := by rw [hvm]; exact State.WarmedH.refl s
  have hat' : ∀ w ∈ vx_atS own ic cls names, w.before args s' = true := fun w hw => vx_ot_at hW0 hvm.symm (hgood w (List.mem_cons_of_mem _ (List.mem_cons_of_mem _ hw))) (hat w hw)
  have hk' : (Cond.classLink own ik cls).before args s' = true := vx_ot_at hW0 hvm.symm (hgood _ List.mem_cons_self) hk
  have hini' : (Cond.initialized cls).before args s' = true := vx_ot_at hW0 hvm.symm (hgood _ (List.mem_cons_of_mem _ List.mem_cons_self)) hini
  have hU' : vx_Zq Bundle.tN "UNASSIGNED_STACK" Bundle.steD A s' s'.heap := by rw [hhp]; exact vx_Zq.moved hW0.alike (hU.kept hS.2.1)
  have hN' : vx_Zq Bundle.tN "SUPPRESSED_SENTINEL" Bundle.listD A s' s'.heap := by rw [hhp]; exact vx_Zq.moved hW0.alike (hN.kept hS.2.1)
  have h : ∀ w ∈ Bundle.ownAtoms own ic cls names, w.before args s' = true := vx_own hat' (vx_isRefq hU'.1) (vx_isRefq hN'.1) hU'.2.word hN'.2.word
  have hown' : s'.vm.findClass own = some m.cls := by rw [hvm]; exact hown
  have hins : (Cond.instantiable cls 6).before args s' = true := h _ (by simp [Bundle.ownAtoms])
  obtain ⟨vm₁, cX, kX, hfX, hkX, -, -, X₁, st1⟩ := Y.newCold hexec (own := own) (C := cls) (index := ik) (n := 6) hown' hk' hins hini'
    (g := F0 m pc ls rest) rfl (by rw [hb]; exact d0) (Nat.le_refl _) (Nat.le_refl _)
  generalize hT1 : (T.setVm vm₁).pushCell { cls := cX, slots := kX.instanceTypes.map defaultValue, vm := .none } = T1 at X₁ st1
  have hcat : (Value.ref T.heap.size).category = 1 := rfl
  have hcellA : T1.heap[T.heap.size]? = some (freshCell cX kX) := by rw [← hT1]; exact State.heap_pushCell_size _ _
  have d3' : decode c.code (pc + 3) = .ok (.dup, 1) := by rw [hb]; exact d3
  have d4' : decode c.code (pc + 4) = .ok (.ldc_w is, 3) := by rw [hb]; exact d4
  have hstr' : vk_R own is text sa s' := vk_R.warm hW0 hstr
  obtain ⟨U, hsteps, hrun, hend, hW, hsame, ce, hce, hO⟩ := X₁.ctorThrowS hexec htr (own := own) (cls := cls) (names := names) (ic := ic) hown' hcls hnames h (fun x hx => nomatch hx) hfX hkX hcellA (by rw [hhp, hT]; exact Nat.le_refl _) (msg := .ref sa) rfl
    (g := { method := m, pc := pc + 7, locals := ls, stack := .ref sa :: .ref T.heap.size :: .ref T.heap.size :: rest, locked := none }) rfl hsize rfl rfl (rest := rest) rfl
    (by rw [hb]; exact d7) (by rw [hb]; exact d10) hout hRframes (by simp only [List.map_cons, List.sum_cons, hcat]; omega) hlocks
  obtain ⟨f1, f2⟩ := vx_frame hsame
  rw [hhp] at f1 f2
  have hWs : s.WarmedH U.vm := State.WarmedH.trans hW0 hW
  have hcl : s.vm.findClass cls = some ce.cls := by
    have h9 := hO.cls
    rw [hvm] at h9
    exact h9
  have hall : s.sameButNew ({ U with vm := s.vm } : State) locs mc ms := by
    subst hA
    obtain ⟨e1, e2⟩ := hsame
    rw [State.setFrames_setFrames] at e1
    have h2 : (T.setVm s.vm).sameButNew ({ U with vm := s.vm } : State) [] (0 + 1) (0 + 6) := ⟨e1, e2⟩
    have h3 := X.same.trans h2
    rw [List.append_nil] at h3
    exact h3.mono hc hs
  refine ⟨U, ?_, .threw T.heap.size, hrun, hend, Or.inr ⟨T.heap.size, rfl, cls, ce, locs, hx U hWs.alike f1 (fun q hq => f2 q hq (fun z hz => nomatch hz)), hce, hO.vm, hcl, hWs, hall, hf⟩⟩
  refine st1 _ ?_
  show Steps p.tables e below (T1.setTop { method := m, pc := pc + 3, locals := ls, stack := .ref T.heap.size :: rest, locked := none }) _
  jvm_step X₁.here [X₁.here.top, hexec, d3', Value.category]
  exact X₁.ldcStringW hexec (own := own) (text := text) (index := is) (a := sa) hown' hstr'.1 hstr'.2
    (g := { method := m, pc := pc + 4, locals := ls, stack := .ref T.heap.size :: .ref T.heap.size :: rest, locked := none }) rfl d4' _ hsteps
end Ends
section Bodies
variable {l : Launch}
theorem vx_ofW {y : MethodName} {ws ws' : List Cond} {rm : Room} {Pc : Array Value → State → Prop} {Qc : Array Value → State → Outcome → State → Prop} {XC : String → State → State → Prop} {mc ms : Nat} {free : Addr → Prop} {cc : ByteArray} {maxL : Nat} {ret : Option FieldType}
    (hy : plainName y.cls = true) (hw : ws = Cond.code y cc maxL ret :: ws')
    (body : ∀ p e s m args below meth c s₁, BodyLoose p l y (headSpec ws rm) cc maxL ret e s m args below meth c s₁ → c.maxLocals = maxL → (∀ x ∈ c.exceptionTable.toList, False) → Pc args s →
      W p l e (headSpec ws rm).room s m args below meth c s.heap [] 0 0 (vx_MQ below Qc XC args s mc ms free) (entryFrame m args maxL)) : vx_Met l y ws rm Pc Qc XC mc ms free := by
  refine MetFree.of_bodyS (code := cc) (maxLocals := maxL) (ret := ret) hy ?_ ?_
  · intro args s m h hn
    obtain ⟨meth, c, h1, h2, h3, h4, h5, h6, -, -⟩ := Cond.code_spec hn (atoms_spec (ws := ws) h _ (by rw [hw]; exact List.mem_cons_self))
    exact ⟨meth, c, h1, h2, h3, h4, h5, h6⟩
  · intro p e s m args below meth c s₁ B hml hP _
    have hh0 : s₁.heap = s.heap := by rw [B.state]; rfl
    have ht : ∀ x ∈ c.exceptionTable.toList, False := by
      obtain ⟨meth9, c9, h1, h2, -, -, -, -, h7, -⟩ := Cond.code_spec B.named (atoms_spec (ws := ws) B.pre _ (by rw [hw]; exact List.mem_cons_self))
      cases Option.some.inj (h1.symm.trans B.method)
      cases Option.some.inj (h2.symm.trans (Stand.of_body B).code)
      intro x hx
      rw [Array.isEmpty_iff.mp h7] at hx
      cases hx
    obtain ⟨t, a1, o, b1, b2, b3⟩ := body p e s m args below meth c s₁ B hml ht hP s₁ hh0 (Stand.of_body B)
    exact ⟨t, o, a1, b1, b2, b3⟩
/-- the table of a body with handlers -/
theorem vx_table {p : Program} {x y : MethodName} {S : Spec} {cc bytes : ByteArray} {maxL maxL' : Nat} {ret ret' : Option FieldType} {e : Env} {s s₁ : State} {m : MethodId} {args : Array Value} {below : List Frame} {meth : Method} {c : Code} {hh : List (Nat × Nat × Nat × Nat)}
    (B : BodyLoose p l y S cc maxL ret e s m args below meth c s₁) (h : (Cond.codeWith y bytes maxL' ret' hh).before args s = true) : c.exceptionTable.toList = tableOf hh := by
  obtain ⟨m9, meth9, c9, hn9, h1, h2, -, -, h6, -⟩ := Cond.codeWith_spec h
  cases Option.some.inj (hn9.symm.trans B.named)
  cases Option.some.inj (h1.symm.trans B.method)
  cases Option.some.inj (h2.symm.trans (Stand.of_body B).code)
  rw [← h6, table_eq]
end Bodies
end VXA
/-! ===== END ===== -/
/-! ===== BEGIN a static call of a method with an exception table ===== -/
section VXS
variable {p : Program} {l : Launch} {e : Env} {R : Room} {s : State} {m : MethodId} {args : Array Value} {below : List Frame} {meth : Method} {c : Code} {T : State} {H : Heap} {locs : List Loc} {cells slots : Nat}
abbrev vx_CSW (R : Room) (s : State) (args : Array Value) (own : String) (index : Nat) (y : MethodName) (bytes : ByteArray) (maxL : Nat) (ret : Option FieldType) (hh : List (Nat × Nat × Nat × Nat)) (ws : List Cond) (rm : Room) (mc ms n : Nat) : Prop :=
  (rm.cells = mc ∧ rm.slots = ms ∧ rm.frames + 1 ≤ R.frames ∧ 8 + (maxL + 11) + rm.locals ≤ R.locals ∧ (∀ w ∈ ws, ∀ (a' : Array Value) (U : State), s.WarmedH U.vm → w.before a' U = true) ∧ Cond.codeWith y bytes maxL ret hh ∈ ws) ∧
  (Cond.codeWith y bytes maxL ret hh).before args s = true ∧ (Cond.initialized y.cls).before args s = true ∧ (y.cls ≠ "java/lang/invoke/MethodHandle" ∧ y.cls ≠ "java/lang/invoke/VarHandle") ∧
  (∀ sig, parseMethodDescriptor y.desc = some sig → n = sig.parameters.length) ∧ (Cond.methodLink own index y).before args s = true ∧ (Cond.static y).before args s = true
theorem vx_cwSW {own : String} {index maxL mc ms : Nat} {y : MethodName} {bytes : ByteArray} {ret : Option FieldType} {hh : List (Nat × Nat × Nat × Nat)} {Ts ws ws' : List Cond} {rm : Room} (n : Nat) (ht : ∀ w ∈ Ts, w.before args s = true) (hT : GoodIn Ts (va_wsS own index y ws)) (hw : ws = Cond.codeWith y bytes maxL ret hh :: ws') (hrc : rm.cells = mc) (hrs : rm.slots = ms)
    (hd : y.cls ≠ "java/lang/invoke/MethodHandle" ∧ y.cls ≠ "java/lang/invoke/VarHandle" ∧ (parseMethodDescriptor y.desc).map (fun d => d.parameters.length) = some n) (hR : rm.frames + 1 ≤ R.frames ∧ 8 + (maxL + 11) + rm.locals ≤ R.locals) :
    vx_CSW R s args own index y bytes maxL ret hh ws rm mc ms n := by
  have ok : ∀ w ∈ va_wsS own index y ws, w.before args s = true := fun w h => ht w (hT w h).1
  have hG : GoodIn Ts ws := fun w h => hT w (by unfold va_wsS; exact List.mem_append_right _ h)
  have hc : Cond.codeWith y bytes maxL ret hh ∈ ws := by rw [hw]; exact List.mem_cons_self
  refine ⟨⟨hrc, hrs, hR.1, hR.2, pay_in ht hG, hc⟩, ht _ (hG _ hc).1, ok _ (by simp [va_wsS]), ⟨hd.1, hd.2.1⟩, fun sig h => ?_, ok _ (by simp [va_wsS]), ok _ (by simp [va_wsS])⟩
  have h2 := hd.2.2
  rw [h] at h2
  exact (Option.some.inj h2).symm
theorem vx_callSW (X : Stand p l e R s m args below meth c T locs cells slots) (hexec : p.tables.exec = Jvm.exec) {own : String} {index : Nat} {y : MethodName} {bytes : ByteArray} {maxL : Nat} {ret : Option FieldType} {hh : List (Nat × Nat × Nat × Nat)}
    (hown : s.vm.findClass own = some m.cls) (hlink : (Cond.methodLink own index y).before args s = true) (hstat : (Cond.static y).before args s = true) (hinit : (Cond.initialized y.cls).before args s = true)
    (hcode : (Cond.codeWith y bytes maxL ret hh).before args s = true) (hy : y.cls ≠ "java/lang/invoke/MethodHandle" ∧ y.cls ≠ "java/lang/invoke/VarHandle")
    {W9 : Nat} {Pre : Pt → Array Value → Prop} {Post : Pt → Array Value → Option Value → Pt → Prop} (hK : Back l R p e below s args y 3 W9 Pre Post)
    {g : JFrame} (hg : g.method = m) (hsize : g.locals.size = c.maxLocals) {argsL rest : List Value} (hlen : ∀ sig, parseMethodDescriptor y.desc = some sig → argsL.length = sig.parameters.length)
    (hstack : g.stack = argsL.reverse ++ rest) (hW : 2 * g.monitorRoom + (rest.map fun v => v.category).sum ≤ W9) (hdg : decode c.code g.pc = .ok (.invokestatic index, 3))
    (hpre : ∀ vm₁, s.WarmedH vm₁ → Pre ⟨T.setVm vm₁, locs, cells, slots⟩ argsL.toArray) :
    ∃ (v : Option Value) (vm₁ : Vm) (B : Pt), s.WarmedH vm₁ ∧ Stand p l e R s m args below meth c B.U B.locs B.cells B.slots ∧ Post ⟨T.setVm vm₁, locs, cells, slots⟩ argsL.toArray v B ∧
      ∀ target, Steps p.tables e below (B.U.setTop { g with pc := g.pc + 3, stack := v.toList ++ rest }) target → Steps p.tables e below (T.setTop g) target := by
  obtain ⟨mk, methM, cM, hnamed, hmethM, -, -, -, -, -, -, hsigM⟩ := Cond.codeWith_spec hcode
  have hstatic : methM.isStatic = true := Cond.static_spec hnamed hmethM hstat
  obtain ⟨kP, hkP, -⟩ := className_of_methodNamed hnamed
  have hinitP : kP.init = .initialized := Cond.initialized_spec (findClass_of_methodNamed hnamed) hkP hinit
  obtain ⟨vm₁, X₁, hstep₁⟩ := X.invokestatic hexec hown hlink hnamed hmethM hstatic hkP hinitP hy (g := g) hg (argsL := argsL) (rest := rest) (hlen _ hsigM) hstack hdg
  obtain ⟨v, B, X', hpost, hsteps⟩ := hK m meth c ⟨T.setVm vm₁, locs, cells, slots⟩ { g with stack := rest } (.invokestatic index) mk argsL.toArray X₁ hg hsize hdg hW (X₁.named hnamed) (hpre vm₁ X₁.warmed)
  exact ⟨v, vm₁, B, X₁.warmed, X', hpost, fun target h => hstep₁ _ fun acts => by rw [doInvoke_state]; exact hsteps.trans h⟩
theorem vx_runSW {y : MethodName} {bytes cc : ByteArray} {maxL nL mc ms n index : Nat} {ret : Option FieldType} {hh : List (Nat × Nat × Nat × Nat)} {ws : List Cond} {rm : Room} {Pc : Array Value → State → Prop} {Qc : Array Value → State → Outcome → State → Prop} {free : Addr → Prop} {Ts : List Cond} {own : String} {As rest : List Value} {g : JFrame}
    (S : CallFix p m c cc nL s args Ts own) (hM : Met l y ws rm Pc Qc mc ms free) (cw : vx_CSW R s args own index y bytes maxL ret hh ws rm mc ms n) (hp : PreS s H Pc As)
    (hg : g.method = m) (hn : As.length = n) (hsize : g.locals.size = nL) (hstack : g.stack = As.reverse ++ rest) (hW : 2 * g.monitorRoom + (rest.map fun v => v.category).sum ≤ 8) (hdg : decode cc g.pc = .ok (.invokestatic index, 3)) (hf : cells + mc ≤ R.cells ∧ slots + ms ≤ R.slots) :
    va_Run p l e R s m args below meth c H locs cells slots mc ms g rest (Qc As.toArray) (free) := by
  obtain ⟨⟨hrc, hrs, hfr, hlo, hws, hcw⟩, hcode, hini, hy, hlen, hl, hstt⟩ := cw
  have hK : Back l R p e below s args y 3 8 (PreOf R mc ms Pc) (PostOf Qc mc ms free) := va_backW (hh := hh) (bytes := bytes) (maxL := maxL) (ret := ret) hM hp.1 hrc hrs hfr hlo hws hcw (fun a' U hW => word_at hW (Or.inl (by first | rfl | simp [Cond.onTables, Cond.keeps, Cond.steady])) hini)
  obtain ⟨hx, hb, hml, ho, -⟩ := S
  intro T hT X
  obtain ⟨v, vm₁, ⟨U', l2, c2, s2⟩, hW₁, X', ⟨g', mk, t, L, e1, e2, hq, h1, hL, h2, h3⟩, st⟩ := vx_callSW X hx (hh := hh) (bytes := bytes) (maxL := maxL) (ret := ret) ho hl hstt hini hcode hy hK hg (hsize.trans hml.symm) (argsL := As) (rest := rest) (fun sig h => hn.trans (hlen sig h)) hstack hW (by rw [hb]; exact hdg)
    (fun vm₁ hW₁ => ⟨hf.1, hf.2, hp.2 (T.setVm vm₁) hT hW₁⟩)
  dsimp only [Pt.U, Pt.locs, Pt.cells, Pt.slots] at X' e1 e2 h1 h2 h3 st
  subst h1; subst h2; subst h3
  exact ⟨v, (T.setVm vm₁).calling g' mk As.toArray, t, U', L, hT, X', hL, e1, e2, hq, st⟩
/-- not caught here, past rows that name other classes: it goes on to the caller -/
theorem vx_outP {p : Program} {l : Launch} {e : Env} {R : Room} {s : State} {m : MethodId} {args : Array Value} {below : List Frame} {meth : Method} {c : Code} {H : Heap} {locs : List Loc} {cells slots : Nat} {free : Addr → Prop} {ls : Array Slot} {rest : List Value} {Qc : Array Value → State → Outcome → State → Prop} {XC : String → State → State → Prop}
    {pc : Nat} {own E : String} {ce : Cell} {q : Addr} {mc ms : Nat} (hown : s.vm.findClass own = some m.cls) (hlocks : meth.locks = false)
    (hpass : ∀ z ∈ c.exceptionTable.toList, covers z pc = false ∨ (z.catchType ≠ 0 ∧ ∃ nm : String, (Cond.classLink own z.catchType nm).before args s = true ∧ va_Nc E nm s)) (hcell : H[q]? = some ce) (hv : ce.vm = .none) (hcl : s.vm.findClass E = some ce.cls)
    (hx : ∀ t : State, t.heap = H → s.vm.Alike t.vm → XC E s t) (hf : ∀ z ∈ locs, free z.base) (hc : cells ≤ mc) (hs : slots ≤ ms) :
    vx_W p l e R s m args below meth c H locs cells slots (vx_MQ below Qc XC args s mc ms free) (F0 m pc ls rest) q := by
  intro T hT X
  have hpl : e.platform.magicAccessors = ({} : Platform).magicAccessors := by rw [X.admits.platform]
  obtain ⟨vm', hW', X', st⟩ := X.outThrough hlocks q (g := F0 m pc ls rest) rfl rfl rfl (cell := ce) (by rw [hT]; exact hcell) (by rw [hv]; rfl)
    (by obtain ⟨k9, h9, -⟩ := Vm.findClass_spec hcl; exact ⟨k9, h9⟩) (fun z hz => by
      rcases hpass z hz with h | ⟨hz0, nm, hl1, hn1⟩
      · exact Or.inl h
      · obtain ⟨c6, hc6, hcl6⟩ := Cond.classLink_spec hown hl1 e.platform hpl
        obtain ⟨a8, b8, h1, h2, h3⟩ := hn1
        cases Option.some.inj (h1.symm.trans hcl)
        cases Option.some.inj (h2.symm.trans hc6)
        exact Or.inr ⟨hz0, _, hcl6, h3⟩)
  obtain ⟨g₀, hfr⟩ := X'.frames_eq
  have hcell9 : ((T.setVm vm').setFrames (.throwing q :: below)).heap[q]? = some ce := by
    show T.heap[q]? = some ce
    rw [hT]; exact hcell
  have hend : Ended ((T.setVm vm').setFrames (.throwing q :: below)) below (.threw q) := State.frames_setFrames _ (State.cur_lt_of_frames hfr)
  refine ⟨(T.setVm vm').setFrames (.throwing q :: below), ?_, .threw q, X'.here.running, hend, Or.inr ⟨q, rfl, E, ce, locs, hx _ hT (X'.ends _).1.alike, hcell9, hv, hcl, (X'.ends _).1, (X'.ends _).2.mono hc hs, hf⟩⟩
  rw [X.pushThrowing_eq]
  exact st
/-- a thing of a world lies in the heap -/
theorem vx_lt {D : va_G} {cl : List vw_C} {ws : va_W} {H1 : Heap} (h : va_P D cl ws H1) {k : Nat} {q : Nat × va_E} (hk : ws[k]? = some q) : q.1 < H1.size := (h k q hk).lt
end VXS
/-! ===== END ===== -/
/-! ===== BEGIN methods with a table of their own: called by a name, returning or throwing ===== -/
section VXH
/-! vx_backW, vx_callVX, vx_callSX, vx_callVW, vx_runVW, vx_runVX, vx_runSX, vx_ofWH follow the same proofs as their sisters above (Free/Laws.lean, Shelf42/LK1.lean); vx_outP calls Shelf42/NT130.lean (outThrough). -/
section
variable {l : Launch} {R : Room} {p : Program} {e : Env} {below : List Frame} {s : State} {sargs : Array Value} {y : MethodName} {len W9 : Nat}
theorem vx_backW {ws : List Cond} {rm : Room} {Pc : Array Value → State → Prop} {Qc : Array Value → State → Outcome → State → Prop} {XC : String → State → State → Prop} {mc ms : Nat} {free : Addr → Prop} {bytes : ByteArray} {maxL : Nat} {ret : Option FieldType} {hh : List (Nat × Nat × Nat × Nat)}
    (hM : vx_Met l y ws rm Pc Qc XC mc ms free) (hblind : FrameBlind Pc) (hrc : rm.cells = mc) (hrs : rm.slots = ms)
    (hframes : rm.frames + 1 ≤ R.frames) (hlocals : W9 + (maxL + 11) + rm.locals ≤ R.locals)
    (hws : ∀ w ∈ ws, ∀ a' U, s.WarmedH U.vm → w.before a' U = true) (hcode : Cond.codeWith y bytes maxL ret hh ∈ ws) (hinit : ∀ a' U, s.WarmedH U.vm → (Cond.initialized y.cls).before a' U = true) :
    vx_Back l R p e below s sargs y len W9 (PreOf R mc ms Pc) (PostOf Qc mc ms free) (vx_Post XC mc ms free) := by
  intro m meth c A g ig mk a X hg hsize hdg hW hn hp
  have h1 : (headSpec ws rm).pre.before a A.U = true := atoms_intro fun w hw => hws w hw _ _ X.warmed
  have h2 : (Cond.codeWith y bytes maxL ret hh).before a A.U = true := hws _ hcode _ _ X.warmed
  have h3 : (Cond.initialized y.cls).before a A.U = true := hinit _ _ X.warmed
  have h4 : A.cells + (headSpec ws rm).room.cells ≤ R.cells := by rw [show (headSpec ws rm).room.cells = mc from hrc]; exact hp.1
  have h5 : A.slots + (headSpec ws rm).room.slots ≤ R.slots := by rw [show (headSpec ws rm).room.slots = ms from hrs]; exact hp.2.1
  have hPc : Pc a (A.U.calling g mk a) := hblind _ _ _ _ hp.2.2
  obtain ⟨U, Ls, c0, s0⟩ := A
  dsimp only [Pt.U, Pt.locs, Pt.cells, Pt.slots] at h1 h2 h3 h4 h5 X hn hPc ⊢
  obtain ⟨m9, methY, cY, hn9, hmY, hcY, -, hlY, -⟩ := Cond.codeWith_spec h2
  cases Option.some.inj (hn9.symm.trans hn)
  obtain ⟨kY, hkY, -⟩ := className_of_methodNamed hn
  have hinitY : kY.init = .initialized := Cond.initialized_spec (findClass_of_methodNamed hn) hkY h3
  have h : At U g.method c below := by rw [hg]; exact X.here
  have hlocals9 : W9 + (maxL + 11) + (headSpec ws rm).room.locals ≤ R.locals := hlocals
  have happ : (headSpec ws rm).appliesLoose y e.platform (U.calling g mk a) = true :=
    Spec.appliesLoose_calling (g := g) h hdg hn hkY hinitY
      (X.room_calling (g := g) (R' := (headSpec ws rm).room) hsize hmY hcY hframes (by rw [hlY]; omega) h4 h5) h1
  obtain ⟨mid, hmid⟩ := h.above
  have hfr : (U.setTop g).frames = (.java g :: mid) ++ below := by rw [State.frames_setTop' g h.top, hmid]; rfl
  obtain ⟨o, s₂, hsteps, -, hend, hq⟩ := Steps.callFree hM p X.admits X.cas X.clock (acts := []) hfr happ hPc trivial
  have hq' : vx_Q Qc XC mc ms free a (U.calling g mk a) o s₂ := hq
  rw [State.frames_setTop' g h.top] at hend
  obtain ⟨g₀, hg0⟩ := Option.isSome_iff_exists.mp h.top
  obtain ⟨r, hr⟩ := State.topJava?_eq_some.mp hg0
  have hr' : (({ U with heap := s₂.heap, slotsUsed := s₂.slotsUsed } : State).setVm s₂.vm).frames = .java g₀ :: r := hr
  rcases hq' with ⟨hqc, L, hfe, hL⟩ | ⟨q, rfl, E, ce, L, hx, hce, hcv, hcl, hW₂, hsm, hL⟩
  · obtain ⟨⟨v, rfl⟩, hW₂, e2, q2, q3, q4, q5, q6⟩ := id hfe
    have e3 : s₂ = ({ (U.calling g mk a).setFrames s₂.frames with heap := s₂.heap, slotsUsed := s₂.slotsUsed } : State).setVm s₂.vm := by
      have : s₂ = ({ s₂ with vm := (U.calling g mk a).vm } : State).setVm s₂.vm := rfl
      rw [e2] at this
      exact this
    obtain ⟨c₂, i₂, len₂, hc₂, hd₂, hf₂⟩ := hend
    have hW' : U.WarmedH s₂.vm := hW₂
    have hcc : c₂ = c := by
      have h1 : s₂.code? g.method = U.code? g.method := by
        rw [State.code?_eq, State.code?_eq, hW'.alike.method?]
      exact Option.some.inj (hc₂.symm.trans (h1.trans h.code))
    subst hcc
    have hlen : len₂ = len := by rw [hdg] at hd₂; cases hd₂; rfl
    subst hlen
    have hs₂ : s₂ = (({ U with heap := s₂.heap, slotsUsed := s₂.slotsUsed } : State).setVm s₂.vm).setTop { g with pc := g.pc + len₂, stack := v.toList ++ g.stack } := by
      refine e3.trans ?_
      rw [hf₂, State.calling_eq h.top, State.setFrames_setFrames, State.setTop_of_frames _ hr', hr]
      rfl
    have hsame : U.sameButNew ({ U with heap := s₂.heap, slotsUsed := s₂.slotsUsed } : State) L mc ms := by
      refine ⟨?_, q2, q3, q4, q5, q6⟩
      obtain ⟨t, ht, -⟩ := State.frames_cons hr
      show ({ U with heap := s₂.heap, slotsUsed := s₂.slotsUsed } : State) = { U.setFrames U.frames with heap := s₂.heap, slotsUsed := s₂.slotsUsed }
      rw [State.setFrames_self ht]
    subst hg
    refine Or.inl ⟨v, ⟨(({ U with heap := s₂.heap, slotsUsed := s₂.slotsUsed } : State).setVm s₂.vm), Ls ++ L, c0 + mc, s0 + ms⟩,
      ⟨X.admits, X.cas, X.clock, X.frames, X.room, X.hears, X.method, X.code, (X.here.setHeapUsed s₂.heap s₂.slotsUsed).setVm hW'.alike, X.tail, State.WarmedH.trans X.warmed hW', X.limits, X.bytes, X.same.trans (hsame.setVm s.vm)⟩,
      ⟨g, mk, s₂, L, rfl, rfl, hqc, rfl, hL, rfl, rfl⟩, ?_⟩
    show Steps p.tables e below _ ((({ U with heap := s₂.heap, slotsUsed := s₂.slotsUsed } : State).setVm s₂.vm).setTop { g with pc := g.pc + len₂, stack := v.toList ++ g.stack })
    rw [← hs₂]
    exact hsteps
  · obtain ⟨e2, q2, q3, q4, q5, q6⟩ := id hsm
    have e3 : s₂ = ({ (U.calling g mk a).setFrames s₂.frames with heap := s₂.heap, slotsUsed := s₂.slotsUsed } : State).setVm s₂.vm := by
      have : s₂ = ({ s₂ with vm := (U.calling g mk a).vm } : State).setVm s₂.vm := rfl
      rw [e2] at this
      exact this
    have hf₂ : s₂.frames = .throwing q :: .java g :: U.frames.tail := hend
    have hW' : U.WarmedH s₂.vm := hW₂
    have hs₂ : s₂ = ((({ U with heap := s₂.heap, slotsUsed := s₂.slotsUsed } : State).setVm s₂.vm).setTop g).pushFrame (.throwing q) := by
      refine e3.trans ?_
      rw [hf₂, State.calling_eq h.top, State.setFrames_setFrames, State.pushFrame, State.frames_setTop _ hr', State.setTop_of_frames _ hr', State.setFrames_setFrames, hr]
      rfl
    have hsame : U.sameButNew ({ U with heap := s₂.heap, slotsUsed := s₂.slotsUsed } : State) L mc ms := by
      refine ⟨?_, q2, q3, q4, q5, q6⟩
      obtain ⟨t, ht, -⟩ := State.frames_cons hr
      show ({ U with heap := s₂.heap, slotsUsed := s₂.slotsUsed } : State) = { U.setFrames U.frames with heap := s₂.heap, slotsUsed := s₂.slotsUsed }
      rw [State.setFrames_self ht]
    subst hg
    refine Or.inr ⟨q, ⟨(({ U with heap := s₂.heap, slotsUsed := s₂.slotsUsed } : State).setVm s₂.vm), Ls ++ L, c0 + mc, s0 + ms⟩,
      ⟨X.admits, X.cas, X.clock, X.frames, X.room, X.hears, X.method, X.code, (X.here.setHeapUsed s₂.heap s₂.slotsUsed).setVm hW'.alike, X.tail, State.WarmedH.trans X.warmed hW', X.limits, X.bytes, X.same.trans (hsame.setVm s.vm)⟩,
      ⟨g, mk, s₂, L, E, ce, rfl, rfl, hx, hce, hcv, hcl, rfl, hL, rfl, rfl⟩, ?_⟩
    show Steps p.tables e below _ (((({ U with heap := s₂.heap, slotsUsed := s₂.slotsUsed } : State).setVm s₂.vm).setTop g).pushFrame (.throwing q))
    rw [← hs₂]
    exact hsteps
end
variable {p : Program} {l : Launch} {e : Env} {R : Room} {s : State} {m : MethodId} {args : Array Value} {below : List Frame} {meth : Method} {c : Code} {T : State} {H : Heap} {locs : List Loc} {cells slots : Nat}
theorem vx_callVX (X : Stand p l e R s m args below meth c T locs cells slots) (hexec : p.tables.exec = Jvm.exec) {own C : String} {index : Nat} {y : MethodName} {bytes : ByteArray} {maxL : Nat} {ret : Option FieldType} {hh : List (Nat × Nat × Nat × Nat)}
    (hown : s.vm.findClass own = some m.cls) (hlink : (Cond.methodLink own index y).before args s = true) (hinst : (Cond.instanceMethod y).before args s = true) (hsel : (Cond.selects C y y).before args s = true)
    (hcode : (Cond.codeWith y bytes maxL ret hh).before args s = true) (hy : y.cls ≠ "java/lang/invoke/MethodHandle" ∧ y.cls ≠ "java/lang/invoke/VarHandle")
    {W9 : Nat} {Pre : Pt → Array Value → Prop} {Post : Pt → Array Value → Option Value → Pt → Prop} {PostX : Pt → Array Value → Addr → Pt → Prop} (hK : vx_Back l R p e below s args y 3 W9 Pre Post PostX)
    {b : Addr} {cellB : Cell} (hcell : T.heap[b]? = some cellB) (hobj : cellB.vm.isStatics = false) (hcls : s.vm.findClass C = some cellB.cls)
    {g : JFrame} (hg : g.method = m) (hsize : g.locals.size = c.maxLocals) {argsL rest : List Value} (hlen : ∀ sig, parseMethodDescriptor y.desc = some sig → argsL.length = sig.parameters.length)
    (hstack : g.stack = argsL.reverse ++ .ref b :: rest) (hW : 2 * g.monitorRoom + (rest.map fun v => v.category).sum ≤ W9) (hdg : decode c.code g.pc = .ok (.invokevirtual index, 3))
    (hpre : ∀ vm₁, s.WarmedH vm₁ → Pre ⟨T.setVm vm₁, locs, cells, slots⟩ (Value.ref b :: argsL).toArray) :
    (∃ (v : Option Value) (vm₁ : Vm) (B : Pt), s.WarmedH vm₁ ∧ Stand p l e R s m args below meth c B.U B.locs B.cells B.slots ∧ Post ⟨T.setVm vm₁, locs, cells, slots⟩ (Value.ref b :: argsL).toArray v B ∧
      ∀ target, Steps p.tables e below (B.U.setTop { g with pc := g.pc + 3, stack := v.toList ++ rest }) target → Steps p.tables e below (T.setTop g) target) ∨
    (∃ (q : Addr) (vm₁ : Vm) (B : Pt), s.WarmedH vm₁ ∧ Stand p l e R s m args below meth c B.U B.locs B.cells B.slots ∧ PostX ⟨T.setVm vm₁, locs, cells, slots⟩ (Value.ref b :: argsL).toArray q B ∧
      Steps p.tables e below (T.setTop g) ((B.U.setTop { g with stack := rest }).pushFrame (.throwing q))) := by
  obtain ⟨mk, methM, hnamed, hmethM, hstM, habM⟩ := Cond.instanceMethod_spec hinst
  obtain ⟨m8, methM', cM, hn8, hmethM', -, -, -, -, -, -, hsigM⟩ := Cond.codeWith_spec hcode
  cases Option.some.inj (hn8.symm.trans hnamed)
  cases hmethM.symm.trans hmethM'
  obtain ⟨c2, r2, m2, q1, q2, q3, q4, kP, hkP, hkPi⟩ := Cond.selects_spec hsel
  cases hcls.symm.trans q1
  cases (State.methodFound?_of_named hnamed hy).symm.trans q2
  cases hnamed.symm.trans q3
  have hselP : selectMethod e.platform s.vm cellB.cls mk = .method mk := by rw [Launch.admits_selectMethod X.admits]; exact q4
  obtain ⟨vm₁, X₁, hstep₁⟩ := X.invokevirtual hexec hown hlink hnamed hmethM hstM hkP hkPi hy (a := b) (cell := cellB) hcell
    (fun z h => by rw [h] at hobj; cases hobj) hselP hmethM habM hkP hkPi (g := g) hg (argsL := argsL) (rest := rest) (hlen _ hsigM) hstack hdg
  rcases hK m meth c ⟨T.setVm vm₁, locs, cells, slots⟩ { g with stack := rest } (.invokevirtual index) mk (Value.ref b :: argsL).toArray X₁ hg hsize hdg hW (X₁.named hnamed) (hpre vm₁ X₁.warmed) with ⟨v, B, X', hpost, hsteps⟩ | ⟨q, B, X', hpost, hsteps⟩
  · exact Or.inl ⟨v, vm₁, B, X₁.warmed, X', hpost, fun target h => hstep₁ _ fun acts => by rw [doInvoke_state]; exact hsteps.trans h⟩
  · exact Or.inr ⟨q, vm₁, B, X₁.warmed, X', hpost, hstep₁ _ fun acts => by rw [doInvoke_state]; exact hsteps⟩
theorem vx_callSX (X : Stand p l e R s m args below meth c T locs cells slots) (hexec : p.tables.exec = Jvm.exec) {own : String} {index : Nat} {y : MethodName} {bytes : ByteArray} {maxL : Nat} {ret : Option FieldType} {hh : List (Nat × Nat × Nat × Nat)}
    (hown : s.vm.findClass own = some m.cls) (hlink : (Cond.methodLink own index y).before args s = true) (hstat : (Cond.static y).before args s = true) (hinit : (Cond.initialized y.cls).before args s = true)
    (hcode : (Cond.codeWith y bytes maxL ret hh).before args s = true) (hy : y.cls ≠ "java/lang/invoke/MethodHandle" ∧ y.cls ≠ "java/lang/invoke/VarHandle")
    {W9 : Nat} {Pre : Pt → Array Value → Prop} {Post : Pt → Array Value → Option Value → Pt → Prop} {PostX : Pt → Array Value → Addr → Pt → Prop} (hK : vx_Back l R p e below s args y 3 W9 Pre Post PostX)
    {g : JFrame} (hg : g.method = m) (hsize : g.locals.size = c.maxLocals) {argsL rest : List Value} (hlen : ∀ sig, parseMethodDescriptor y.desc = some sig → argsL.length = sig.parameters.length)
    (hstack : g.stack = argsL.reverse ++ rest) (hW : 2 * g.monitorRoom + (rest.map fun v => v.category).sum ≤ W9) (hdg : decode c.code g.pc = .ok (.invokestatic index, 3))
    (hpre : ∀ vm₁, s.WarmedH vm₁ → Pre ⟨T.setVm vm₁, locs, cells, slots⟩ argsL.toArray) :
    (∃ (v : Option Value) (vm₁ : Vm) (B : Pt), s.WarmedH vm₁ ∧ Stand p l e R s m args below meth c B.U B.locs B.cells B.slots ∧ Post ⟨T.setVm vm₁, locs, cells, slots⟩ argsL.toArray v B ∧
      ∀ target, Steps p.tables e below (B.U.setTop { g with pc := g.pc + 3, stack := v.toList ++ rest }) target → Steps p.tables e below (T.setTop g) target) ∨
    (∃ (q : Addr) (vm₁ : Vm) (B : Pt), s.WarmedH vm₁ ∧ Stand p l e R s m args below meth c B.U B.locs B.cells B.slots ∧ PostX ⟨T.setVm vm₁, locs, cells, slots⟩ argsL.toArray q B ∧
      Steps p.tables e below (T.setTop g) ((B.U.setTop { g with stack := rest }).pushFrame (.throwing q))) := by
  obtain ⟨mk, methM, cM, hnamed, hmethM, -, -, -, -, -, -, hsigM⟩ := Cond.codeWith_spec hcode
  have hstatic : methM.isStatic = true := Cond.static_spec hnamed hmethM hstat
  obtain ⟨kP, hkP, -⟩ := className_of_methodNamed hnamed
  have hinitP : kP.init = .initialized := Cond.initialized_spec (findClass_of_methodNamed hnamed) hkP hinit
  obtain ⟨vm₁, X₁, hstep₁⟩ := X.invokestatic hexec hown hlink hnamed hmethM hstatic hkP hinitP hy (g := g) hg (argsL := argsL) (rest := rest) (hlen _ hsigM) hstack hdg
  rcases hK m meth c ⟨T.setVm vm₁, locs, cells, slots⟩ { g with stack := rest } (.invokestatic index) mk argsL.toArray X₁ hg hsize hdg hW (X₁.named hnamed) (hpre vm₁ X₁.warmed) with ⟨v, B, X', hpost, hsteps⟩ | ⟨q, B, X', hpost, hsteps⟩
  · exact Or.inl ⟨v, vm₁, B, X₁.warmed, X', hpost, fun target h => hstep₁ _ fun acts => by rw [doInvoke_state]; exact hsteps.trans h⟩
  · exact Or.inr ⟨q, vm₁, B, X₁.warmed, X', hpost, hstep₁ _ fun acts => by rw [doInvoke_state]; exact hsteps⟩
theorem vx_callVW (X : Stand p l e R s m args below meth c T locs cells slots) (hexec : p.tables.exec = Jvm.exec) {own C : String} {index : Nat} {y : MethodName} {bytes : ByteArray} {maxL : Nat} {ret : Option FieldType} {hh : List (Nat × Nat × Nat × Nat)}
    (hown : s.vm.findClass own = some m.cls) (hlink : (Cond.methodLink own index y).before args s = true) (hinst : (Cond.instanceMethod y).before args s = true) (hsel : (Cond.selects C y y).before args s = true)
    (hcode : (Cond.codeWith y bytes maxL ret hh).before args s = true) (hy : y.cls ≠ "java/lang/invoke/MethodHandle" ∧ y.cls ≠ "java/lang/invoke/VarHandle")
    {W9 : Nat} {Pre : Pt → Array Value → Prop} {Post : Pt → Array Value → Option Value → Pt → Prop} (hK : Back l R p e below s args y 3 W9 Pre Post)
    {b : Addr} {cellB : Cell} (hcell : T.heap[b]? = some cellB) (hobj : cellB.vm.isStatics = false) (hcls : s.vm.findClass C = some cellB.cls)
    {g : JFrame} (hg : g.method = m) (hsize : g.locals.size = c.maxLocals) {argsL rest : List Value} (hlen : ∀ sig, parseMethodDescriptor y.desc = some sig → argsL.length = sig.parameters.length)
    (hstack : g.stack = argsL.reverse ++ .ref b :: rest) (hW : 2 * g.monitorRoom + (rest.map fun v => v.category).sum ≤ W9) (hdg : decode c.code g.pc = .ok (.invokevirtual index, 3))
    (hpre : ∀ vm₁, s.WarmedH vm₁ → Pre ⟨T.setVm vm₁, locs, cells, slots⟩ (Value.ref b :: argsL).toArray) :
    ∃ (v : Option Value) (vm₁ : Vm) (B : Pt), s.WarmedH vm₁ ∧ Stand p l e R s m args below meth c B.U B.locs B.cells B.slots ∧ Post ⟨T.setVm vm₁, locs, cells, slots⟩ (Value.ref b :: argsL).toArray v B ∧
      ∀ target, Steps p.tables e below (B.U.setTop { g with pc := g.pc + 3, stack := v.toList ++ rest }) target → Steps p.tables e below (T.setTop g) target := by
  obtain ⟨mk, methM, hnamed, hmethM, hstM, habM⟩ := Cond.instanceMethod_spec hinst
  obtain ⟨m8, methM', cM, hn8, hmethM', -, -, -, -, -, -, hsigM⟩ := Cond.codeWith_spec hcode
  cases Option.some.inj (hn8.symm.trans hnamed)
  cases hmethM.symm.trans hmethM'
  obtain ⟨c2, r2, m2, q1, q2, q3, q4, kP, hkP, hkPi⟩ := Cond.selects_spec hsel
  cases hcls.symm.trans q1
  cases (State.methodFound?_of_named hnamed hy).symm.trans q2
  cases hnamed.symm.trans q3
  have hselP : selectMethod e.platform s.vm cellB.cls mk = .method mk := by rw [Launch.admits_selectMethod X.admits]; exact q4
  obtain ⟨vm₁, X₁, hstep₁⟩ := X.invokevirtual hexec hown hlink hnamed hmethM hstM hkP hkPi hy (a := b) (cell := cellB) hcell
    (fun z h => by rw [h] at hobj; cases hobj) hselP hmethM habM hkP hkPi (g := g) hg (argsL := argsL) (rest := rest) (hlen _ hsigM) hstack hdg
  obtain ⟨v, B, X', hpost, hsteps⟩ := hK m meth c ⟨T.setVm vm₁, locs, cells, slots⟩ { g with stack := rest } (.invokevirtual index) mk (Value.ref b :: argsL).toArray X₁ hg hsize hdg hW (X₁.named hnamed) (hpre vm₁ X₁.warmed)
  exact ⟨v, vm₁, B, X₁.warmed, X', hpost, fun target h => hstep₁ _ fun acts => by rw [doInvoke_state]; exact hsteps.trans h⟩
abbrev vx_CVW (R : Room) (s : State) (args : Array Value) (own C : String) (index : Nat) (y : MethodName) (bytes : ByteArray) (maxL : Nat) (ret : Option FieldType) (hh : List (Nat × Nat × Nat × Nat)) (ws : List Cond) (rm : Room) (mc ms n : Nat) : Prop :=
  (rm.cells = mc ∧ rm.slots = ms ∧ rm.frames + 1 ≤ R.frames ∧ 8 + (maxL + 11) + rm.locals ≤ R.locals ∧ (∀ w ∈ ws, ∀ (a' : Array Value) (U : State), s.WarmedH U.vm → w.before a' U = true) ∧ Cond.codeWith y bytes maxL ret hh ∈ ws) ∧
  (Cond.codeWith y bytes maxL ret hh).before args s = true ∧ (Cond.initialized y.cls).before args s = true ∧ (y.cls ≠ "java/lang/invoke/MethodHandle" ∧ y.cls ≠ "java/lang/invoke/VarHandle") ∧
  (∀ sig, parseMethodDescriptor y.desc = some sig → n = sig.parameters.length) ∧ (Cond.methodLink own index y).before args s = true ∧ (Cond.instanceMethod y).before args s = true ∧ (Cond.selects C y y).before args s = true
theorem vx_cwVW {own C : String} {index maxL mc ms : Nat} {y : MethodName} {bytes : ByteArray} {ret : Option FieldType} {hh : List (Nat × Nat × Nat × Nat)} {Ts ws ws' : List Cond} {rm : Room} (n : Nat) (ht : ∀ w ∈ Ts, w.before args s = true) (hT : GoodIn Ts (wsV own index C y ws)) (hw : ws = Cond.codeWith y bytes maxL ret hh :: ws') (hrc : rm.cells = mc) (hrs : rm.slots = ms)
    (hd : y.cls = C ∧ y.cls ≠ "java/lang/invoke/MethodHandle" ∧ y.cls ≠ "java/lang/invoke/VarHandle" ∧ (parseMethodDescriptor y.desc).map (fun d => d.parameters.length) = some n) (hR : rm.frames + 1 ≤ R.frames ∧ 8 + (maxL + 11) + rm.locals ≤ R.locals) :
    vx_CVW R s args own C index y bytes maxL ret hh ws rm mc ms n := by
  obtain ⟨hC, hd⟩ := hd
  subst hC
  have ok : ∀ w ∈ wsV own index y.cls y ws, w.before args s = true := fun w h => ht w (hT w h).1
  have hG : GoodIn Ts ws := fun w h => hT w (by unfold wsV; exact List.mem_append_right _ h)
  have hc : Cond.codeWith y bytes maxL ret hh ∈ ws := by rw [hw]; exact List.mem_cons_self
  refine ⟨⟨hrc, hrs, hR.1, hR.2, pay_in ht hG, hc⟩, ht _ (hG _ hc).1, ok _ (by simp [wsV]), ⟨hd.1, hd.2.1⟩, fun sig h => ?_, ok _ (by simp [wsV]), ok _ (by simp [wsV]), ok _ (by simp [wsV])⟩
  have h2 := hd.2.2
  rw [h] at h2
  exact (Option.some.inj h2).symm
theorem vx_runVW {y : MethodName} {bytes cc : ByteArray} {maxL nL mc ms n index : Nat} {ret : Option FieldType} {hh : List (Nat × Nat × Nat × Nat)} {ws : List Cond} {rm : Room} {Pc : Array Value → State → Prop} {Qc : Array Value → State → Outcome → State → Prop} {free : Addr → Prop} {Ts : List Cond} {own C : String} {b : Addr} {As rest : List Value} {g : JFrame}
    (S : CallFix p m c cc nL s args Ts own) (hM : Met l y ws rm Pc Qc mc ms free) (cw : vx_CVW R s args own C index y bytes maxL ret hh ws rm mc ms n) (hp : PreV s H C b Pc As)
    (hg : g.method = m) (hn : As.length = n) (hsize : g.locals.size = nL) (hstack : g.stack = As.reverse ++ .ref b :: rest) (hW : 2 * g.monitorRoom + (rest.map fun v => v.category).sum ≤ 8) (hdg : decode cc g.pc = .ok (.invokevirtual index, 3)) (hf : cells + mc ≤ R.cells ∧ slots + ms ≤ R.slots) :
    va_Run p l e R s m args below meth c H locs cells slots mc ms g rest (Qc (Value.ref b :: As).toArray) free := by
  obtain ⟨⟨hrc, hrs, hfr, hlo, hws, hcw⟩, hcode, hini, hy, hlen, hl, hin, hse⟩ := cw
  have hK : Back l R p e below s args y 3 8 (PreOf R mc ms Pc) (PostOf Qc mc ms free) := va_backW (hh := hh) (bytes := bytes) (maxL := maxL) (ret := ret) hM hp.1 hrc hrs hfr hlo hws hcw (fun a' U hW => word_at hW (Or.inl (by first | rfl | simp [Cond.onTables, Cond.keeps, Cond.steady])) hini)
  obtain ⟨hx, hb, hml, ho, -⟩ := S
  obtain ⟨-, ⟨cellB, hcB, hoB, hclB⟩, hPc⟩ := hp
  intro T hT X
  obtain ⟨v, vm₁, ⟨U', l2, c2, s2⟩, hW₁, X', ⟨g', mk, t, L, e1, e2, hq, h1, hL, h2, h3⟩, st⟩ := vx_callVW X hx (C := C) (hh := hh) (bytes := bytes) (maxL := maxL) (ret := ret) ho hl hin hse hcode hy hK (by rw [hT]; exact hcB) hoB hclB hg (hsize.trans hml.symm) (argsL := As) (rest := rest) (fun sig h => hn.trans (hlen sig h)) hstack hW (by rw [hb]; exact hdg)
    (fun vm₁ hW₁ => ⟨hf.1, hf.2, hPc (T.setVm vm₁) hT hW₁⟩)
  dsimp only [Pt.U, Pt.locs, Pt.cells, Pt.slots] at X' e1 e2 h1 h2 h3 st
  subst h1; subst h2; subst h3
  exact ⟨v, (T.setVm vm₁).calling g' mk (Value.ref b :: As).toArray, t, U', L, hT, X', hL, e1, e2, hq, st⟩
section
variable {y : MethodName} {bytes cc : ByteArray} {maxL nL mc ms n index : Nat} {ret : Option FieldType} {ws : List Cond} {rm : Room} {Pc : Array Value → State → Prop} {Qc : Array Value → State → Outcome → State → Prop} {XC : String → State → State → Prop} {free : Addr → Prop} {Ts : List Cond} {own C : String} {b : Addr} {As rest : List Value} {g : JFrame}
theorem vx_runVX {hh : List (Nat × Nat × Nat × Nat)} (S : CallFix p m c cc nL s args Ts own) (hM : vx_Met l y ws rm Pc Qc XC mc ms free) (cw : vx_CVW R s args own C index y bytes maxL ret hh ws rm mc ms n) (hp : PreV s H C b Pc As)
    (hg : g.method = m) (hn : As.length = n) (hsize : g.locals.size = nL) (hstack : g.stack = As.reverse ++ .ref b :: rest) (hW : 2 * g.monitorRoom + (rest.map fun v => v.category).sum ≤ 8) (hdg : decode cc g.pc = .ok (.invokevirtual index, 3)) (hf : cells + mc ≤ R.cells ∧ slots + ms ≤ R.slots) :
    vx_Run p l e R s m args below meth c H locs cells slots mc ms g rest (Qc (Value.ref b :: As).toArray) XC free := by
  obtain ⟨⟨hrc, hrs, hfr, hlo, hws, hcw⟩, hcode, hini, hy, hlen, hl, hin, hse⟩ := cw
  have hK : vx_Back l R p e below s args y 3 8 (PreOf R mc ms Pc) (PostOf Qc mc ms free) (vx_Post XC mc ms free) := vx_backW (hh := hh) (bytes := bytes) (maxL := maxL) (ret := ret) hM hp.1 hrc hrs hfr hlo hws hcw (fun a' U hW => word_at hW (Or.inl (by first | rfl | simp [Cond.onTables, Cond.keeps, Cond.steady])) hini)
  obtain ⟨hx, hb, hml, ho, -⟩ := S
  obtain ⟨-, ⟨cellB, hcB, hoB, hclB⟩, hPc⟩ := hp
  intro T hT X
  rcases vx_callVX X hx (C := C) (hh := hh) (bytes := bytes) (maxL := maxL) (ret := ret) ho hl hin hse hcode hy hK (by rw [hT]; exact hcB) hoB hclB hg (hsize.trans hml.symm) (argsL := As) (rest := rest) (fun sig h => hn.trans (hlen sig h)) hstack hW (by rw [hb]; exact hdg)
    (fun vm₁ hW₁ => ⟨hf.1, hf.2, hPc (T.setVm vm₁) hT hW₁⟩) with ⟨v, vm₁, ⟨U', l2, c2, s2⟩, hW₁, X', ⟨g', mk, t, L, e1, e2, hq, h1, hL, h2, h3⟩, st⟩ | ⟨q, vm₁, ⟨U', l2, c2, s2⟩, hW₁, X', ⟨g', mk, t, L, E, ce, e1, e2, hq, hce, hcv, hcl, h1, hL, h2, h3⟩, st⟩
  · dsimp only [Pt.U, Pt.locs, Pt.cells, Pt.slots] at X' e1 e2 h1 h2 h3 st
    subst h1; subst h2; subst h3
    exact Or.inl ⟨v, (T.setVm vm₁).calling g' mk (Value.ref b :: As).toArray, t, U', L, hT, X', hL, e1, e2, hq, st⟩
  · dsimp only [Pt.U, Pt.locs, Pt.cells, Pt.slots] at X' e1 e2 h1 h2 h3 st hcl
    subst h1; subst h2; subst h3
    exact Or.inr ⟨q, (T.setVm vm₁).calling g' mk (Value.ref b :: As).toArray, t, U', L, E, ce, hT, X', hL, e1, e2, hq, hce, hcv, vx_cls hW₁ hcl, st⟩
theorem vx_runSX {hh : List (Nat × Nat × Nat × Nat)} (S : CallFix p m c cc nL s args Ts own) (hM : vx_Met l y ws rm Pc Qc XC mc ms free) (cw : vx_CSW R s args own index y bytes maxL ret hh ws rm mc ms n) (hp : PreS s H Pc As)
    (hg : g.method = m) (hn : As.length = n) (hsize : g.locals.size = nL) (hstack : g.stack = As.reverse ++ rest) (hW : 2 * g.monitorRoom + (rest.map fun v => v.category).sum ≤ 8) (hdg : decode cc g.pc = .ok (.invokestatic index, 3)) (hf : cells + mc ≤ R.cells ∧ slots + ms ≤ R.slots) :
    vx_Run p l e R s m args below meth c H locs cells slots mc ms g rest (Qc As.toArray) XC free := by
  obtain ⟨⟨hrc, hrs, hfr, hlo, hws, hcw⟩, hcode, hini, hy, hlen, hl, hstt⟩ := cw
  have hK : vx_Back l R p e below s args y 3 8 (PreOf R mc ms Pc) (PostOf Qc mc ms free) (vx_Post XC mc ms free) := vx_backW (hh := hh) (bytes := bytes) (maxL := maxL) (ret := ret) hM hp.1 hrc hrs hfr hlo hws hcw (fun a' U hW => word_at hW (Or.inl (by first | rfl | simp [Cond.onTables, Cond.keeps, Cond.steady])) hini)
  obtain ⟨hx, hb, hml, ho, -⟩ := S
  intro T hT X
  rcases vx_callSX X hx (hh := hh) (bytes := bytes) (maxL := maxL) (ret := ret) ho hl hstt hini hcode hy hK hg (hsize.trans hml.symm) (argsL := As) (rest := rest) (fun sig h => hn.trans (hlen sig h)) hstack hW (by rw [hb]; exact hdg)
    (fun vm₁ hW₁ => ⟨hf.1, hf.2, hp.2 (T.setVm vm₁) hT hW₁⟩) with ⟨v, vm₁, ⟨U', l2, c2, s2⟩, hW₁, X', ⟨g', mk, t, L, e1, e2, hq, h1, hL, h2, h3⟩, st⟩ | ⟨q, vm₁, ⟨U', l2, c2, s2⟩, hW₁, X', ⟨g', mk, t, L, E, ce, e1, e2, hq, hce, hcv, hcl, h1, hL, h2, h3⟩, st⟩
  · dsimp only [Pt.U, Pt.locs, Pt.cells, Pt.slots] at X' e1 e2 h1 h2 h3 st
    subst h1; subst h2; subst h3
    exact Or.inl ⟨v, (T.setVm vm₁).calling g' mk As.toArray, t, U', L, hT, X', hL, e1, e2, hq, st⟩
  · dsimp only [Pt.U, Pt.locs, Pt.cells, Pt.slots] at X' e1 e2 h1 h2 h3 st hcl
    subst h1; subst h2; subst h3
    exact Or.inr ⟨q, (T.setVm vm₁).calling g' mk As.toArray, t, U', L, E, ce, hT, X', hL, e1, e2, hq, hce, hcv, vx_cls hW₁ hcl, st⟩
end
end VXH
theorem vx_ofWH {l : Launch} {y : MethodName} {ws ws' : List Cond} {rm : Room} {Pc : Array Value → State → Prop} {Qc : Array Value → State → Outcome → State → Prop} {XC : String → State → State → Prop} {mc ms : Nat} {free : Addr → Prop} {cc : ByteArray} {maxL : Nat} {ret : Option FieldType} {hh : List (Nat × Nat × Nat × Nat)}
    (hy : plainName y.cls = true) (hw : ws = Cond.codeWith y cc maxL ret hh :: ws')
    (body : ∀ p e s m args below meth c s₁, BodyLoose p l y (headSpec ws rm) cc maxL ret e s m args below meth c s₁ → c.maxLocals = maxL → Pc args s →
      W p l e (headSpec ws rm).room s m args below meth c s.heap [] 0 0 (vx_MQ below Qc XC args s mc ms free) (entryFrame m args maxL)) : vx_Met l y ws rm Pc Qc XC mc ms free := by
  refine MetFree.of_bodyS (code := cc) (maxLocals := maxL) (ret := ret) hy ?_ ?_
  · intro args s m h hn
    obtain ⟨m9, meth, c, hn9, h1, h2, h3, h4, -, h5, h6, -⟩ := Cond.codeWith_spec (atoms_spec (ws := ws) h _ (by rw [hw]; exact List.mem_cons_self))
    cases hn.symm.trans hn9
    exact ⟨meth, c, h1, h2, h3, h4, h5, h6⟩
  · intro p e s m args below meth c s₁ B hml hP _
    have hh0 : s₁.heap = s.heap := by rw [B.state]; rfl
    obtain ⟨t, a1, o, b1, b2, b3⟩ := body p e s m args below meth c s₁ B hml hP s₁ hh0 (Stand.of_body B)
    exact ⟨t, o, a1, b1, b2, b3⟩
/-! ===== END ===== -/
end
section
def RX0 : String := "Candleford$Grid"
def TX0 : u_T := fun k => match k with
  | 0 => ("Candleford$Grid", "rows", "I", true)
  | 1 => ("Candleford$Grid", "columns", "I", true)
  | _ => ("Candleford$Grid", "cells", "[I", true)
def tyX0 : Nat → FieldType := fun k => match k with
  | 0 => .int
  | 1 => .int
  | _ => .array .int
theorem nmX0 : ∀ a, a < 3 → ∀ b, b < 3 → a ≠ b → (TX0 a).2.1 ≠ (TX0 b).2.1 := by decide +kernel
theorem tyX0_ok : ∀ k, k < 3 → parseFieldDescriptor (TX0 k).2.2.1 = some (tyX0 k) := by decide +kernel
abbrev cX0_init : ByteArray := prog_2_method_1_code
def yX0_init : MethodName := ⟨RX0, "<init>", "(II)V"⟩
abbrev cX0_at : ByteArray := prog_2_method_2_code
def yX0_at : MethodName := ⟨RX0, "at", "(II)I"⟩
abbrev cX0_put : ByteArray := prog_2_method_3_code
def yX0_put : MethodName := ⟨RX0, "put", "(III)V"⟩
abbrev cX0_clearRow : ByteArray := prog_2_method_4_code
def yX0_clearRow : MethodName := ⟨RX0, "clearRow", "(I)V"⟩
abbrev cX0_lowerRow : ByteArray := prog_2_method_5_code
def yX0_lowerRow : MethodName := ⟨RX0, "lowerRow", "(IILCandleford$Grid;I)V"⟩
def RX1 : String := "Candleford$House"
def TX1 : u_T := fun k => match k with
  | 0 => ("Candleford$House", "number", "I", true)
  | 1 => ("Candleford$House", "street", "LCandleford$Street;", true)
  | 2 => ("Candleford$House", "side", "I", true)
  | 3 => ("Candleford$House", "offset", "I", true)
  | _ => ("Candleford$House", "letters", "I", false)
def tyX1 : Nat → FieldType := fun k => match k with
  | 0 => .int
  | 1 => .object "Candleford$Street"
  | 2 => .int
  | 3 => .int
  | _ => .int
theorem nmX1 : ∀ a, a < 5 → ∀ b, b < 5 → a ≠ b → (TX1 a).2.1 ≠ (TX1 b).2.1 := by decide +kernel
theorem tyX1_ok : ∀ k, k < 5 → parseFieldDescriptor (TX1 k).2.2.1 = some (tyX1 k) := by decide +kernel
abbrev cX1_init : ByteArray := prog_3_method_1_code
def yX1_init : MethodName := ⟨RX1, "<init>", "(ILCandleford$Street;II)V"⟩
def RX2 : String := "Candleford$Parcel"
def TX2 : u_T := fun k => match k with
  | 0 => ("Candleford$Parcel", "house", "LCandleford$House;", true)
  | 1 => ("Candleford$Parcel", "weight", "I", true)
  | 2 => ("Candleford$Parcel", "deadline", "I", true)
  | _ => ("Candleford$Parcel", "isDelivered", "Z", false)
def tyX2 : Nat → FieldType := fun k => match k with
  | 0 => .object "Candleford$House"
  | 1 => .int
  | 2 => .int
  | _ => .boolean
theorem nmX2 : ∀ a, a < 4 → ∀ b, b < 4 → a ≠ b → (TX2 a).2.1 ≠ (TX2 b).2.1 := by decide +kernel
theorem tyX2_ok : ∀ k, k < 4 → parseFieldDescriptor (TX2 k).2.2.1 = some (tyX2 k) := by decide +kernel
abbrev cX2_init : ByteArray := prog_4_method_1_code
def yX2_init : MethodName := ⟨RX2, "<init>", "(LCandleford$House;II)V"⟩
def RX3 : String := "Candleford$Pass"
def TX3 : u_T := fun k => match k with
  | 0 => ("Candleford$Pass", "number", "I", true)
  | 1 => ("Candleford$Pass", "from", "I", true)
  | 2 => ("Candleford$Pass", "to", "I", true)
  | 3 => ("Candleford$Pass", "length", "I", true)
  | 4 => ("Candleford$Pass", "need", "I", false)
  | _ => ("Candleford$Pass", "begun", "I", false)
def tyX3 : Nat → FieldType := fun k => match k with
  | 0 => .int
  | 1 => .int
  | 2 => .int
  | 3 => .int
  | 4 => .int
  | _ => .int
theorem nmX3 : ∀ a, a < 6 → ∀ b, b < 6 → a ≠ b → (TX3 a).2.1 ≠ (TX3 b).2.1 := by decide +kernel
theorem tyX3_ok : ∀ k, k < 6 → parseFieldDescriptor (TX3 k).2.2.1 = some (tyX3 k) := by decide +kernel
abbrev cX3_init : ByteArray := prog_5_method_1_code
def yX3_init : MethodName := ⟨RX3, "<init>", "(IIII)V"⟩
abbrev cX3_isForward : ByteArray := prog_5_method_2_code
def yX3_isForward : MethodName := ⟨RX3, "isForward", "()Z"⟩
abbrev cX3_goesBy : ByteArray := prog_5_method_3_code
def yX3_goesBy : MethodName := ⟨RX3, "goesBy", "(LCandleford$House;)Z"⟩
abbrev cX3_lengthTo : ByteArray := prog_5_method_4_code
def yX3_lengthTo : MethodName := ⟨RX3, "lengthTo", "(LCandleford$House;)I"⟩
def RX4 : String := "Candleford$Round"
def TX4 : u_T := fun k => match k with
  | _ => ("Candleford$Round", "limit", "I", true)
def tyX4 : Nat → FieldType := fun k => match k with
  | _ => .int
theorem nmX4 : ∀ a, a < 1 → ∀ b, b < 1 → a ≠ b → (TX4 a).2.1 ≠ (TX4 b).2.1 := by decide +kernel
theorem tyX4_ok : ∀ k, k < 1 → parseFieldDescriptor (TX4 k).2.2.1 = some (tyX4 k) := by decide +kernel
abbrev cX4_init : ByteArray := prog_6_method_1_code
def yX4_init : MethodName := ⟨RX4, "<init>", "(I)V"⟩
def RX5 : String := "Candleford$Street"
def TX5 : u_T := fun k => match k with
  | 0 => ("Candleford$Street", "number", "I", true)
  | 1 => ("Candleford$Street", "first", "I", true)
  | 2 => ("Candleford$Street", "length", "I", true)
  | 3 => ("Candleford$Street", "isWide", "Z", true)
  | 4 => ("Candleford$Street", "forward", "LCandleford$Pass;", true)
  | 5 => ("Candleford$Street", "backward", "LCandleford$Pass;", true)
  | _ => ("Candleford$Street", "round", "I", false)
def tyX5 : Nat → FieldType := fun k => match k with
  | 0 => .int
  | 1 => .int
  | 2 => .int
  | 3 => .boolean
  | 4 => .object "Candleford$Pass"
  | 5 => .object "Candleford$Pass"
  | _ => .int
theorem nmX5 : ∀ a, a < 7 → ∀ b, b < 7 → a ≠ b → (TX5 a).2.1 ≠ (TX5 b).2.1 := by decide +kernel
theorem tyX5_ok : ∀ k, k < 7 → parseFieldDescriptor (TX5 k).2.2.1 = some (tyX5 k) := by decide +kernel
abbrev cX5_init : ByteArray := prog_7_method_1_code
def yX5_init : MethodName := ⟨RX5, "<init>", "(IIIIZ)V"⟩
def RX6 : String := "Candleford$Walk"
def TX6 : u_T := fun k => match k with
  | 0 => ("Candleford$Walk", "ways", "LCandleford$Ways;", true)
  | 1 => ("Candleford$Walk", "choices", "Ljava/util/ArrayList;", true)
  | 2 => ("Candleford$Walk", "rest", "LCandleford$Grid;", true)
  | 3 => ("Candleford$Walk", "made", "Ljava/util/ArrayList;", true)
  | 4 => ("Candleford$Walk", "stops", "[I", true)
  | 5 => ("Candleford$Walk", "stopCount", "I", false)
  | _ => ("Candleford$Walk", "needs", "I", false)
def tyX6 : Nat → FieldType := fun k => match k with
  | 0 => .object "Candleford$Ways"
  | 1 => .object "java/util/ArrayList"
  | 2 => .object "Candleford$Grid"
  | 3 => .object "java/util/ArrayList"
  | 4 => .array .int
  | 5 => .int
  | _ => .int
theorem nmX6 : ∀ a, a < 7 → ∀ b, b < 7 → a ≠ b → (TX6 a).2.1 ≠ (TX6 b).2.1 := by decide +kernel
theorem tyX6_ok : ∀ k, k < 7 → parseFieldDescriptor (TX6 k).2.2.1 = some (tyX6 k) := by decide +kernel
abbrev cX6_init : ByteArray := prog_8_method_1_code
def yX6_init : MethodName := ⟨RX6, "<init>", "(LCandleford$Ways;)V"⟩
abbrev cX6_clear : ByteArray := prog_8_method_2_code
def yX6_clear : MethodName := ⟨RX6, "clear", "()V"⟩
abbrev cX6_addNeeds : ByteArray := prog_8_method_3_code
def yX6_addNeeds : MethodName := ⟨RX6, "addNeeds", "(LCandleford$Street;I)V"⟩
abbrev cX6_addChoice : ByteArray := prog_8_method_4_code
def yX6_addChoice : MethodName := ⟨RX6, "addChoice", "(LCandleford$Pass;)V"⟩
abbrev cX6_allNeeds : ByteArray := prog_8_method_5_code
def yX6_allNeeds : MethodName := ⟨RX6, "allNeeds", "()I"⟩
abbrev cX6_isPossible : ByteArray := prog_8_method_6_code
def yX6_isPossible : MethodName := ⟨RX6, "isPossible", "()Z"⟩
abbrev cX6_leastLength : ByteArray := prog_8_method_7_code
def yX6_leastLength : MethodName := ⟨RX6, "leastLength", "()I"⟩
abbrev cX6_restWith : ByteArray := prog_8_method_8_code
def yX6_restWith : MethodName := ⟨RX6, "restWith", "(LCandleford$Pass;I)I"⟩
abbrev cX6_leastLengthByTrying : ByteArray := prog_8_method_9_code
def yX6_leastLengthByTrying : MethodName := ⟨RX6, "leastLengthByTrying", "()I"⟩
abbrev cX6_triedRest : ByteArray := prog_8_method_10_code
def yX6_triedRest : MethodName := ⟨RX6, "triedRest", "(LCandleford$Walk;III)I"⟩
abbrev cX6_trace : ByteArray := prog_8_method_11_code
def yX6_trace : MethodName := ⟨RX6, "trace", "()V"⟩
abbrev cX6_bestPass : ByteArray := prog_8_method_12_code
def yX6_bestPass : MethodName := ⟨RX6, "bestPass", "(II)LCandleford$Pass;"⟩
abbrev cX6_goTo : ByteArray := prog_8_method_13_code
def yX6_goTo : MethodName := ⟨RX6, "goTo", "(II)V"⟩
abbrev cX6_comeTo : ByteArray := prog_8_method_14_code
def yX6_comeTo : MethodName := ⟨RX6, "comeTo", "(I)V"⟩
abbrev cX6_lengthTo : ByteArray := prog_8_method_15_code
def yX6_lengthTo : MethodName := ⟨RX6, "lengthTo", "(LCandleford$House;)I"⟩
def RX7 : String := "Candleford$Ways"
def TX7 : u_T := fun k => match k with
  | 0 => ("Candleford$Ways", "direct", "LCandleford$Grid;", true)
  | 1 => ("Candleford$Ways", "least", "LCandleford$Grid;", true)
  | _ => ("Candleford$Ways", "reached", "LCandleford$Grid;", true)
def tyX7 : Nat → FieldType := fun k => match k with
  | 0 => .object "Candleford$Grid"
  | 1 => .object "Candleford$Grid"
  | _ => .object "Candleford$Grid"
theorem nmX7 : ∀ a, a < 3 → ∀ b, b < 3 → a ≠ b → (TX7 a).2.1 ≠ (TX7 b).2.1 := by decide +kernel
theorem tyX7_ok : ∀ k, k < 3 → parseFieldDescriptor (TX7 k).2.2.1 = some (tyX7 k) := by decide +kernel
abbrev cX7_init : ByteArray := prog_9_method_1_code
def yX7_init : MethodName := ⟨RX7, "<init>", "()V"⟩
abbrev cX7_connect : ByteArray := prog_9_method_2_code
def yX7_connect : MethodName := ⟨RX7, "connect", "(LCandleford$Street;)V"⟩
abbrev cX7_measureFrom : ByteArray := prog_9_method_3_code
def yX7_measureFrom : MethodName := ⟨RX7, "measureFrom", "(I)V"⟩
abbrev cX7_nearestNotTaken : ByteArray := prog_9_method_4_code
def yX7_nearestNotTaken : MethodName := ⟨RX7, "nearestNotTaken", "(II)I"⟩
abbrev cX7_leastByRounds : ByteArray := prog_9_method_5_code
def yX7_leastByRounds : MethodName := ⟨RX7, "leastByRounds", "(Ljava/util/ArrayList;II)I"⟩
abbrev cX7_reachBy : ByteArray := prog_9_method_6_code
def yX7_reachBy : MethodName := ⟨RX7, "reachBy", "(LCandleford$Pass;)Z"⟩
abbrev cX7_nextPlace : ByteArray := prog_9_method_7_code
def yX7_nextPlace : MethodName := ⟨RX7, "nextPlace", "(II)I"⟩
def RX8 : String := "Candleford"
def TX8 : u_T := fun k => match k with
  | 0 => ("Candleford", "streets", "Ljava/util/ArrayList;", true)
  | 1 => ("Candleford", "houses", "Ljava/util/ArrayList;", true)
  | 2 => ("Candleford", "rounds", "Ljava/util/ArrayList;", true)
  | 3 => ("Candleford", "parcels", "Ljava/util/ArrayList;", true)
  | 4 => ("Candleford", "ways", "LCandleford$Ways;", true)
  | 5 => ("Candleford", "walk", "LCandleford$Walk;", true)
  | 6 => ("Candleford", "pairLengths", "LCandleford$Grid;", true)
  | 7 => ("Candleford", "placeCount", "I", false)
  | 8 => ("Candleford", "bag", "I", false)
  | 9 => ("Candleford", "clock", "I", false)
  | 10 => ("Candleford", "vanParcels", "I", false)
  | 11 => ("Candleford", "lateParcels", "I", false)
  | _ => ("Candleford", "walkedLength", "J", false)
def tyX8 : Nat → FieldType := fun k => match k with
  | 0 => .object "java/util/ArrayList"
  | 1 => .object "java/util/ArrayList"
  | 2 => .object "java/util/ArrayList"
  | 3 => .object "java/util/ArrayList"
  | 4 => .object "Candleford$Ways"
  | 5 => .object "Candleford$Walk"
  | 6 => .object "Candleford$Grid"
  | 7 => .int
  | 8 => .int
  | 9 => .int
  | 10 => .int
  | 11 => .int
  | _ => .long
theorem nmX8 : ∀ a, a < 13 → ∀ b, b < 13 → a ≠ b → (TX8 a).2.1 ≠ (TX8 b).2.1 := by decide +kernel
theorem tyX8_ok : ∀ k, k < 13 → parseFieldDescriptor (TX8 k).2.2.1 = some (tyX8 k) := by decide +kernel
abbrev cX8_init : ByteArray := prog_1_method_1_code
def yX8_init : MethodName := ⟨RX8, "<init>", "()V"⟩
abbrev cX8_addPlace : ByteArray := prog_1_method_2_code
def yX8_addPlace : MethodName := ⟨RX8, "addPlace", "()I"⟩
abbrev cX8_addStreet : ByteArray := prog_1_method_3_code
def yX8_addStreet : MethodName := ⟨RX8, "addStreet", "(IIIZ)I"⟩
abbrev cX8_addHouse : ByteArray := prog_1_method_4_code
def yX8_addHouse : MethodName := ⟨RX8, "addHouse", "(III)I"⟩
abbrev cX8_addRound : ByteArray := prog_1_method_5_code
def yX8_addRound : MethodName := ⟨RX8, "addRound", "(I)I"⟩
abbrev cX8_assign : ByteArray := prog_1_method_6_code
def yX8_assign : MethodName := ⟨RX8, "assign", "(II)I"⟩
abbrev cX8_setBag : ByteArray := prog_1_method_7_code
def yX8_setBag : MethodName := ⟨RX8, "setBag", "(I)I"⟩
abbrev cX8_letters : ByteArray := prog_1_method_8_code
def yX8_letters : MethodName := ⟨RX8, "letters", "(II)I"⟩
abbrev cX8_parcel : ByteArray := prog_1_method_9_code
def yX8_parcel : MethodName := ⟨RX8, "parcel", "(III)I"⟩
abbrev cX8_newDay : ByteArray := prog_1_method_10_code
def yX8_newDay : MethodName := ⟨RX8, "newDay", "()I"⟩
abbrev cX8_places : ByteArray := prog_1_method_11_code
def yX8_places : MethodName := ⟨RX8, "places", "()I"⟩
abbrev cX8_streets : ByteArray := prog_1_method_12_code
def yX8_streets : MethodName := ⟨RX8, "streets", "()I"⟩
abbrev cX8_houses : ByteArray := prog_1_method_13_code
def yX8_houses : MethodName := ⟨RX8, "houses", "()I"⟩
abbrev cX8_roundOf : ByteArray := prog_1_method_14_code
def yX8_roundOf : MethodName := ⟨RX8, "roundOf", "(I)I"⟩
abbrev cX8_houseAt : ByteArray := prog_1_method_15_code
def yX8_houseAt : MethodName := ⟨RX8, "houseAt", "(III)I"⟩
abbrev cX8_lettersOf : ByteArray := prog_1_method_16_code
def yX8_lettersOf : MethodName := ⟨RX8, "lettersOf", "(I)I"⟩
abbrev cX8_isDue : ByteArray := prog_1_method_17_code
def yX8_isDue : MethodName := ⟨RX8, "isDue", "(I)Z"⟩
abbrev cX8_due : ByteArray := prog_1_method_18_code
def yX8_due : MethodName := ⟨RX8, "due", "(I)I"⟩
abbrev cX8_distance : ByteArray := prog_1_method_19_code
def yX8_distance : MethodName := ⟨RX8, "distance", "(II)I"⟩
abbrev cX8_distanceByRounds : ByteArray := prog_1_method_20_code
def yX8_distanceByRounds : MethodName := ⟨RX8, "distanceByRounds", "(II)I"⟩
abbrev cX8_needed : ByteArray := prog_1_method_21_code
def yX8_needed : MethodName := ⟨RX8, "needed", "(I)I"⟩
abbrev cX8_hasWalk : ByteArray := prog_1_method_22_code
def yX8_hasWalk : MethodName := ⟨RX8, "hasWalk", "(I)Z"⟩
abbrev cX8_walkLength : ByteArray := prog_1_method_23_code
def yX8_walkLength : MethodName := ⟨RX8, "walkLength", "(I)I"⟩
abbrev cX8_lengthByTrying : ByteArray := prog_1_method_24_code
def yX8_lengthByTrying : MethodName := ⟨RX8, "lengthByTrying", "(I)I"⟩
abbrev cX8_passAt : ByteArray := prog_1_method_25_code
def yX8_passAt : MethodName := ⟨RX8, "passAt", "(II)I"⟩
abbrev cX8_walkPlaces : ByteArray := prog_1_method_26_code
def yX8_walkPlaces : MethodName := ⟨RX8, "walkPlaces", "(I)I"⟩
abbrev cX8_walkAt : ByteArray := prog_1_method_27_code
def yX8_walkAt : MethodName := ⟨RX8, "walkAt", "(II)I"⟩
abbrev cX8_walkTime : ByteArray := prog_1_method_28_code
def yX8_walkTime : MethodName := ⟨RX8, "walkTime", "(I)I"⟩
abbrev cX8_isInTime : ByteArray := prog_1_method_29_code
def yX8_isInTime : MethodName := ⟨RX8, "isInTime", "(I)Z"⟩
abbrev cX8_walkTo : ByteArray := prog_1_method_30_code
def yX8_walkTo : MethodName := ⟨RX8, "walkTo", "(I)I"⟩
abbrev cX8_deliver : ByteArray := prog_1_method_31_code
def yX8_deliver : MethodName := ⟨RX8, "deliver", "(I)I"⟩
abbrev cX8_saving : ByteArray := prog_1_method_32_code
def yX8_saving : MethodName := ⟨RX8, "saving", "(II)I"⟩
abbrev cX8_mergeInto : ByteArray := prog_1_method_33_code
def yX8_mergeInto : MethodName := ⟨RX8, "mergeInto", "(II)I"⟩
abbrev cX8_bestMerge : ByteArray := prog_1_method_34_code
def yX8_bestMerge : MethodName := ⟨RX8, "bestMerge", "()I"⟩
abbrev cX8_parcelState : ByteArray := prog_1_method_35_code
def yX8_parcelState : MethodName := ⟨RX8, "parcelState", "(I)C"⟩
abbrev cX8_isHeavy : ByteArray := prog_1_method_36_code
def yX8_isHeavy : MethodName := ⟨RX8, "isHeavy", "(I)Z"⟩
abbrev cX8_nextParcel : ByteArray := prog_1_method_37_code
def yX8_nextParcel : MethodName := ⟨RX8, "nextParcel", "()I"⟩
abbrev cX8_tripOf : ByteArray := prog_1_method_38_code
def yX8_tripOf : MethodName := ⟨RX8, "tripOf", "(I)I"⟩
abbrev cX8_dispatch : ByteArray := prog_1_method_39_code
def yX8_dispatch : MethodName := ⟨RX8, "dispatch", "()Z"⟩
abbrev cX8_vanClock : ByteArray := prog_1_method_40_code
def yX8_vanClock : MethodName := ⟨RX8, "vanClock", "()I"⟩
abbrev cX8_late : ByteArray := prog_1_method_41_code
def yX8_late : MethodName := ⟨RX8, "late", "()I"⟩
abbrev cX8_walked : ByteArray := prog_1_method_42_code
def yX8_walked : MethodName := ⟨RX8, "walked", "()J"⟩
abbrev cX8_lateShare : ByteArray := prog_1_method_43_code
def yX8_lateShare : MethodName := ⟨RX8, "lateShare", "()F"⟩
abbrev cX8_meanLetters : ByteArray := prog_1_method_44_code
def yX8_meanLetters : MethodName := ⟨RX8, "meanLetters", "()D"⟩
abbrev cX8_isFrom : ByteArray := prog_1_method_45_code
def yX8_isFrom : MethodName := ⟨RX8, "isFrom", "(III)Z"⟩
abbrev cX8_noneIfNoWay : ByteArray := prog_1_method_46_code
def yX8_noneIfNoWay : MethodName := ⟨RX8, "noneIfNoWay", "(I)I"⟩
abbrev cX8_checkPlace : ByteArray := prog_1_method_47_code
def yX8_checkPlace : MethodName := ⟨RX8, "checkPlace", "(I)V"⟩
abbrev cX8_findStreet : ByteArray := prog_1_method_48_code
def yX8_findStreet : MethodName := ⟨RX8, "findStreet", "(I)LCandleford$Street;"⟩
abbrev cX8_findHouse : ByteArray := prog_1_method_49_code
def yX8_findHouse : MethodName := ⟨RX8, "findHouse", "(I)LCandleford$House;"⟩
abbrev cX8_findRound : ByteArray := prog_1_method_50_code
def yX8_findRound : MethodName := ⟨RX8, "findRound", "(I)LCandleford$Round;"⟩
abbrev cX8_findParcel : ByteArray := prog_1_method_51_code
def yX8_findParcel : MethodName := ⟨RX8, "findParcel", "(I)LCandleford$Parcel;"⟩
abbrev cX8_rankOf : ByteArray := prog_1_method_52_code
def yX8_rankOf : MethodName := ⟨RX8, "rankOf", "(LCandleford$House;)I"⟩
abbrev cX8_isLight : ByteArray := prog_1_method_53_code
def yX8_isLight : MethodName := ⟨RX8, "isLight", "(LCandleford$Parcel;)Z"⟩
abbrev cX8_hasPost : ByteArray := prog_1_method_54_code
def yX8_hasPost : MethodName := ⟨RX8, "hasPost", "(LCandleford$House;)Z"⟩
abbrev cX8_groupOf : ByteArray := prog_1_method_55_code
def yX8_groupOf : MethodName := ⟨RX8, "groupOf", "(I)I"⟩
abbrev cX8_isIn : ByteArray := prog_1_method_56_code
def yX8_isIn : MethodName := ⟨RX8, "isIn", "(LCandleford$Street;I)Z"⟩
abbrev cX8_dueHouses : ByteArray := prog_1_method_57_code
def yX8_dueHouses : MethodName := ⟨RX8, "dueHouses", "(I)I"⟩
abbrev cX8_lightParcels : ByteArray := prog_1_method_58_code
def yX8_lightParcels : MethodName := ⟨RX8, "lightParcels", "(I)I"⟩
abbrev cX8_stopTime : ByteArray := prog_1_method_59_code
def yX8_stopTime : MethodName := ⟨RX8, "stopTime", "(I)I"⟩
abbrev cX8_isWithin : ByteArray := prog_1_method_60_code
def yX8_isWithin : MethodName := ⟨RX8, "isWithin", "(III)Z"⟩
abbrev cX8_handOver : ByteArray := prog_1_method_61_code
def yX8_handOver : MethodName := ⟨RX8, "handOver", "(I)V"⟩
abbrev cX8_dueSides : ByteArray := prog_1_method_62_code
def yX8_dueSides : MethodName := ⟨RX8, "dueSides", "(LCandleford$Street;)I"⟩
abbrev cX8_collect : ByteArray := prog_1_method_63_code
def yX8_collect : MethodName := ⟨RX8, "collect", "(I)V"⟩
abbrev cX8_collectWalk : ByteArray := prog_1_method_64_code
def yX8_collectWalk : MethodName := ⟨RX8, "collectWalk", "(I)V"⟩
abbrev cX8_lengthOf : ByteArray := prog_1_method_65_code
def yX8_lengthOf : MethodName := ⟨RX8, "lengthOf", "(I)I"⟩
abbrev cX8_checkedSaving : ByteArray := prog_1_method_66_code
def yX8_checkedSaving : MethodName := ⟨RX8, "checkedSaving", "(II)I"⟩
abbrev cX8_measurePairs : ByteArray := prog_1_method_67_code
def yX8_measurePairs : MethodName := ⟨RX8, "measurePairs", "()V"⟩
abbrev cX8_savedWithin : ByteArray := prog_1_method_68_code
def yX8_savedWithin : MethodName := ⟨RX8, "savedWithin", "(III)I"⟩
abbrev cX8_wayTo : ByteArray := prog_1_method_69_code
def yX8_wayTo : MethodName := ⟨RX8, "wayTo", "(LCandleford$Parcel;)I"⟩
abbrev cX8_comesBefore : ByteArray := prog_1_method_70_code
def yX8_comesBefore : MethodName := ⟨RX8, "comesBefore", "(LCandleford$Parcel;LCandleford$Parcel;)Z"⟩
abbrev cX8_checkedTrip : ByteArray := prog_1_method_71_code
def yX8_checkedTrip : MethodName := ⟨RX8, "checkedTrip", "(LCandleford$Parcel;)I"⟩
def RX9 : String := "CandlefordModel"
def TX9 : u_T := fun k => match k with
  | 0 => ("CandlefordModel", "thrown", "I", false)
  | 1 => ("CandlefordModel", "firsts", "[I", true)
  | 2 => ("CandlefordModel", "seconds", "[I", true)
  | 3 => ("CandlefordModel", "lengths", "[I", true)
  | 4 => ("CandlefordModel", "roundOf", "[I", true)
  | 5 => ("CandlefordModel", "streetOf", "[I", true)
  | 6 => ("CandlefordModel", "sides", "[I", true)
  | 7 => ("CandlefordModel", "offsets", "[I", true)
  | 8 => ("CandlefordModel", "letters", "[I", true)
  | 9 => ("CandlefordModel", "limits", "[I", true)
  | 10 => ("CandlefordModel", "houseOf", "[I", true)
  | 11 => ("CandlefordModel", "weights", "[I", true)
  | 12 => ("CandlefordModel", "deadlines", "[I", true)
  | 13 => ("CandlefordModel", "isWide", "[Z", true)
  | 14 => ("CandlefordModel", "isDelivered", "[Z", true)
  | 15 => ("CandlefordModel", "places", "I", false)
  | 16 => ("CandlefordModel", "streets", "I", false)
  | 17 => ("CandlefordModel", "houses", "I", false)
  | 18 => ("CandlefordModel", "rounds", "I", false)
  | 19 => ("CandlefordModel", "parcels", "I", false)
  | 20 => ("CandlefordModel", "bag", "I", false)
  | 21 => ("CandlefordModel", "clock", "I", false)
  | 22 => ("CandlefordModel", "late", "I", false)
  | 23 => ("CandlefordModel", "taken", "I", false)
  | 24 => ("CandlefordModel", "walked", "J", false)
  | 25 => ("CandlefordModel", "far", "[I", true)
  | 26 => ("CandlefordModel", "units", "[I", true)
  | 27 => ("CandlefordModel", "unitMany", "I", false)
  | 28 => ("CandlefordModel", "left", "[I", true)
  | 29 => ("CandlefordModel", "walk", "[I", true)
  | 30 => ("CandlefordModel", "walkLength", "I", false)
  | 31 => ("CandlefordModel", "choices", "[I", true)
  | 32 => ("CandlefordModel", "unitOf", "[I", true)
  | 33 => ("CandlefordModel", "choiceMany", "I", false)
  | 34 => ("CandlefordModel", "least", "I", false)
  | 35 => ("CandlefordModel", "steps", "[I", true)
  | _ => ("CandlefordModel", "stepMany", "I", false)
def tyX9 : Nat → FieldType := fun k => match k with
  | 0 => .int
  | 1 => .array .int
  | 2 => .array .int
  | 3 => .array .int
  | 4 => .array .int
  | 5 => .array .int
  | 6 => .array .int
  | 7 => .array .int
  | 8 => .array .int
  | 9 => .array .int
  | 10 => .array .int
  | 11 => .array .int
  | 12 => .array .int
  | 13 => .array .boolean
  | 14 => .array .boolean
  | 15 => .int
  | 16 => .int
  | 17 => .int
  | 18 => .int
  | 19 => .int
  | 20 => .int
  | 21 => .int
  | 22 => .int
  | 23 => .int
  | 24 => .long
  | 25 => .array .int
  | 26 => .array .int
  | 27 => .int
  | 28 => .array .int
  | 29 => .array .int
  | 30 => .int
  | 31 => .array .int
  | 32 => .array .int
  | 33 => .int
  | 34 => .int
  | 35 => .array .int
  | _ => .int
theorem nmX9 : ∀ a, a < 37 → ∀ b, b < 37 → a ≠ b → (TX9 a).2.1 ≠ (TX9 b).2.1 := by decide +kernel
theorem tyX9_ok : ∀ k, k < 37 → parseFieldDescriptor (TX9 k).2.2.1 = some (tyX9 k) := by decide +kernel
abbrev cX9_init : ByteArray := prog_11_method_1_code
def yX9_init : MethodName := ⟨RX9, "<init>", "()V"⟩
abbrev cX9_thrown : ByteArray := prog_11_method_2_code
def yX9_thrown : MethodName := ⟨RX9, "thrown", "()I"⟩
abbrev cX9_fails : ByteArray := prog_11_method_3_code
def yX9_fails : MethodName := ⟨RX9, "fails", "(I)I"⟩
abbrev cX9_isBetween : ByteArray := prog_11_method_4_code
def yX9_isBetween : MethodName := ⟨RX9, "isBetween", "(III)Z"⟩
abbrev cX9_isStreet : ByteArray := prog_11_method_5_code
def yX9_isStreet : MethodName := ⟨RX9, "isStreet", "(I)Z"⟩
abbrev cX9_isHouse : ByteArray := prog_11_method_6_code
def yX9_isHouse : MethodName := ⟨RX9, "isHouse", "(I)Z"⟩
abbrev cX9_isRound : ByteArray := prog_11_method_7_code
def yX9_isRound : MethodName := ⟨RX9, "isRound", "(I)Z"⟩
abbrev cX9_isPlace : ByteArray := prog_11_method_8_code
def yX9_isPlace : MethodName := ⟨RX9, "isPlace", "(I)Z"⟩
abbrev cX9_isParcel : ByteArray := prog_11_method_9_code
def yX9_isParcel : MethodName := ⟨RX9, "isParcel", "(I)Z"⟩
abbrev cX9_addPlace : ByteArray := prog_11_method_10_code
def yX9_addPlace : MethodName := ⟨RX9, "addPlace", "()I"⟩
abbrev cX9_addStreet : ByteArray := prog_11_method_11_code
def yX9_addStreet : MethodName := ⟨RX9, "addStreet", "(IIIZ)I"⟩
abbrev cX9_addHouse : ByteArray := prog_11_method_12_code
def yX9_addHouse : MethodName := ⟨RX9, "addHouse", "(III)I"⟩
abbrev cX9_addRound : ByteArray := prog_11_method_13_code
def yX9_addRound : MethodName := ⟨RX9, "addRound", "(I)I"⟩
abbrev cX9_assign : ByteArray := prog_11_method_14_code
def yX9_assign : MethodName := ⟨RX9, "assign", "(II)I"⟩
abbrev cX9_setBag : ByteArray := prog_11_method_15_code
def yX9_setBag : MethodName := ⟨RX9, "setBag", "(I)I"⟩
abbrev cX9_letters : ByteArray := prog_11_method_16_code
def yX9_letters : MethodName := ⟨RX9, "letters", "(II)I"⟩
abbrev cX9_parcel : ByteArray := prog_11_method_17_code
def yX9_parcel : MethodName := ⟨RX9, "parcel", "(III)I"⟩
abbrev cX9_isLight : ByteArray := prog_11_method_18_code
def yX9_isLight : MethodName := ⟨RX9, "isLight", "(I)Z"⟩
abbrev cX9_lights : ByteArray := prog_11_method_19_code
def yX9_lights : MethodName := ⟨RX9, "lights", "(I)I"⟩
abbrev cX9_isDueNow : ByteArray := prog_11_method_20_code
def yX9_isDueNow : MethodName := ⟨RX9, "isDueNow", "(I)Z"⟩
abbrev cX9_newDay : ByteArray := prog_11_method_21_code
def yX9_newDay : MethodName := ⟨RX9, "newDay", "()I"⟩
abbrev cX9_places : ByteArray := prog_11_method_22_code
def yX9_places : MethodName := ⟨RX9, "places", "()I"⟩
abbrev cX9_streets : ByteArray := prog_11_method_23_code
def yX9_streets : MethodName := ⟨RX9, "streets", "()I"⟩
abbrev cX9_houses : ByteArray := prog_11_method_24_code
def yX9_houses : MethodName := ⟨RX9, "houses", "()I"⟩
abbrev cX9_roundOf : ByteArray := prog_11_method_25_code
def yX9_roundOf : MethodName := ⟨RX9, "roundOf", "(I)I"⟩
abbrev cX9_houseAt : ByteArray := prog_11_method_26_code
def yX9_houseAt : MethodName := ⟨RX9, "houseAt", "(III)I"⟩
abbrev cX9_lettersOf : ByteArray := prog_11_method_27_code
def yX9_lettersOf : MethodName := ⟨RX9, "lettersOf", "(I)I"⟩
abbrev cX9_isDue : ByteArray := prog_11_method_28_code
def yX9_isDue : MethodName := ⟨RX9, "isDue", "(I)Z"⟩
abbrev cX9_isAt : ByteArray := prog_11_method_29_code
def yX9_isAt : MethodName := ⟨RX9, "isAt", "(II)Z"⟩
abbrev cX9_dueAt : ByteArray := prog_11_method_30_code
def yX9_dueAt : MethodName := ⟨RX9, "dueAt", "(I)I"⟩
abbrev cX9_due : ByteArray := prog_11_method_31_code
def yX9_due : MethodName := ⟨RX9, "due", "(I)I"⟩
abbrev cX9_measures : ByteArray := prog_11_method_32_code
def yX9_measures : MethodName := ⟨RX9, "measures", "()V"⟩
abbrev cX9_distance : ByteArray := prog_11_method_33_code
def yX9_distance : MethodName := ⟨RX9, "distance", "(II)I"⟩
abbrev cX9_distanceByRounds : ByteArray := prog_11_method_34_code
def yX9_distanceByRounds : MethodName := ⟨RX9, "distanceByRounds", "(II)I"⟩
abbrev cX9_isSideDue : ByteArray := prog_11_method_35_code
def yX9_isSideDue : MethodName := ⟨RX9, "isSideDue", "(II)Z"⟩
abbrev cX9_needs : ByteArray := prog_11_method_36_code
def yX9_needs : MethodName := ⟨RX9, "needs", "(I)V"⟩
abbrev cX9_findsNeeds : ByteArray := prog_11_method_37_code
def yX9_findsNeeds : MethodName := ⟨RX9, "findsNeeds", "(I)V"⟩
abbrev cX9_from : ByteArray := prog_11_method_38_code
def yX9_from : MethodName := ⟨RX9, "from", "(I)I"⟩
abbrev cX9_to : ByteArray := prog_11_method_39_code
def yX9_to : MethodName := ⟨RX9, "to", "(I)I"⟩
abbrev cX9_needed : ByteArray := prog_11_method_40_code
def yX9_needed : MethodName := ⟨RX9, "needed", "(I)I"⟩
abbrev cX9_chooses : ByteArray := prog_11_method_41_code
def yX9_chooses : MethodName := ⟨RX9, "chooses", "(II)V"⟩
abbrev cX9_findsChoices : ByteArray := prog_11_method_42_code
def yX9_findsChoices : MethodName := ⟨RX9, "findsChoices", "()V"⟩
abbrev cX9_bestChoice : ByteArray := prog_11_method_43_code
def yX9_bestChoice : MethodName := ⟨RX9, "bestChoice", "(II)I"⟩
abbrev cX9_walks : ByteArray := prog_11_method_44_code
def yX9_walks : MethodName := ⟨RX9, "walks", "(I)Z"⟩
abbrev cX9_isWalkless : ByteArray := prog_11_method_45_code
def yX9_isWalkless : MethodName := ⟨RX9, "isWalkless", "(I)Z"⟩
abbrev cX9_hasWalk : ByteArray := prog_11_method_46_code
def yX9_hasWalk : MethodName := ⟨RX9, "hasWalk", "(I)Z"⟩
abbrev cX9_walkLength : ByteArray := prog_11_method_47_code
def yX9_walkLength : MethodName := ⟨RX9, "walkLength", "(I)I"⟩
abbrev cX9_lengthByTrying : ByteArray := prog_11_method_48_code
def yX9_lengthByTrying : MethodName := ⟨RX9, "lengthByTrying", "(I)I"⟩
abbrev cX9_passAt : ByteArray := prog_11_method_49_code
def yX9_passAt : MethodName := ⟨RX9, "passAt", "(II)I"⟩
abbrev cX9_comesTo : ByteArray := prog_11_method_50_code
def yX9_comesTo : MethodName := ⟨RX9, "comesTo", "(I)V"⟩
abbrev cX9_shortest : ByteArray := prog_11_method_51_code
def yX9_shortest : MethodName := ⟨RX9, "shortest", "(II)I"⟩
abbrev cX9_goes : ByteArray := prog_11_method_52_code
def yX9_goes : MethodName := ⟨RX9, "goes", "(II)V"⟩
abbrev cX9_findsSteps : ByteArray := prog_11_method_53_code
def yX9_findsSteps : MethodName := ⟨RX9, "findsSteps", "()V"⟩
abbrev cX9_walkPlaces : ByteArray := prog_11_method_54_code
def yX9_walkPlaces : MethodName := ⟨RX9, "walkPlaces", "(I)I"⟩
abbrev cX9_walkAt : ByteArray := prog_11_method_55_code
def yX9_walkAt : MethodName := ⟨RX9, "walkAt", "(II)I"⟩
abbrev cX9_timeOf : ByteArray := prog_11_method_56_code
def yX9_timeOf : MethodName := ⟨RX9, "timeOf", "(I)I"⟩
abbrev cX9_walkTime : ByteArray := prog_11_method_57_code
def yX9_walkTime : MethodName := ⟨RX9, "walkTime", "(I)I"⟩
abbrev cX9_isInTime : ByteArray := prog_11_method_58_code
def yX9_isInTime : MethodName := ⟨RX9, "isInTime", "(I)Z"⟩
abbrev cX9_passes : ByteArray := prog_11_method_59_code
def yX9_passes : MethodName := ⟨RX9, "passes", "(II)Z"⟩
abbrev cX9_walkTo : ByteArray := prog_11_method_60_code
def yX9_walkTo : MethodName := ⟨RX9, "walkTo", "(I)I"⟩
abbrev cX9_deliver : ByteArray := prog_11_method_61_code
def yX9_deliver : MethodName := ⟨RX9, "deliver", "(I)I"⟩
abbrev cX9_savingBy : ByteArray := prog_11_method_62_code
def yX9_savingBy : MethodName := ⟨RX9, "savingBy", "(II)I"⟩
abbrev cX9_saving : ByteArray := prog_11_method_63_code
def yX9_saving : MethodName := ⟨RX9, "saving", "(II)I"⟩
abbrev cX9_mergeInto : ByteArray := prog_11_method_64_code
def yX9_mergeInto : MethodName := ⟨RX9, "mergeInto", "(II)I"⟩
abbrev cX9_bestMerge : ByteArray := prog_11_method_65_code
def yX9_bestMerge : MethodName := ⟨RX9, "bestMerge", "()I"⟩
abbrev cX9_parcelState : ByteArray := prog_11_method_66_code
def yX9_parcelState : MethodName := ⟨RX9, "parcelState", "(I)C"⟩
abbrev cX9_isHeavy : ByteArray := prog_11_method_67_code
def yX9_isHeavy : MethodName := ⟨RX9, "isHeavy", "(I)Z"⟩
abbrev cX9_farTo : ByteArray := prog_11_method_68_code
def yX9_farTo : MethodName := ⟨RX9, "farTo", "(I)I"⟩
abbrev cX9_goesFirst : ByteArray := prog_11_method_69_code
def yX9_goesFirst : MethodName := ⟨RX9, "goesFirst", "(II)Z"⟩
abbrev cX9_nextHeavy : ByteArray := prog_11_method_70_code
def yX9_nextHeavy : MethodName := ⟨RX9, "nextHeavy", "()I"⟩
abbrev cX9_nextParcel : ByteArray := prog_11_method_71_code
def yX9_nextParcel : MethodName := ⟨RX9, "nextParcel", "()I"⟩
abbrev cX9_trip : ByteArray := prog_11_method_72_code
def yX9_trip : MethodName := ⟨RX9, "trip", "(I)I"⟩
abbrev cX9_tripOf : ByteArray := prog_11_method_73_code
def yX9_tripOf : MethodName := ⟨RX9, "tripOf", "(I)I"⟩
abbrev cX9_dispatch : ByteArray := prog_11_method_74_code
def yX9_dispatch : MethodName := ⟨RX9, "dispatch", "()Z"⟩
abbrev cX9_vanClock : ByteArray := prog_11_method_75_code
def yX9_vanClock : MethodName := ⟨RX9, "vanClock", "()I"⟩
abbrev cX9_late : ByteArray := prog_11_method_76_code
def yX9_late : MethodName := ⟨RX9, "late", "()I"⟩
abbrev cX9_walked : ByteArray := prog_11_method_77_code
def yX9_walked : MethodName := ⟨RX9, "walked", "()J"⟩
abbrev cX9_lateShare : ByteArray := prog_11_method_78_code
def yX9_lateShare : MethodName := ⟨RX9, "lateShare", "()F"⟩
abbrev cX9_meanLetters : ByteArray := prog_11_method_79_code
def yX9_meanLetters : MethodName := ⟨RX9, "meanLetters", "()D"⟩
def RJ9 : String := "java/lang/Math"
def TJ9 : u_T := fun k => match k with
  | _ => ("", "", "", false)
def tyJ9 : Nat → FieldType := fun k => match k with
  | _ => .int
theorem nmJ9 : ∀ a, a < 0 → ∀ b, b < 0 → a ≠ b → (TJ9 a).2.1 ≠ (TJ9 b).2.1 := by decide +kernel
theorem tyJ9_ok : ∀ k, k < 0 → parseFieldDescriptor (TJ9 k).2.2.1 = some (tyJ9 k) := by decide +kernel
abbrev cJ9_max_7cf53 : ByteArray := prog_21_method_65_code
def yJ9_max_7cf53 : MethodName := ⟨RJ9, "max", "(II)I"⟩
abbrev cJ9_min_7cf53 : ByteArray := prog_21_method_69_code
def yJ9_min_7cf53 : MethodName := ⟨RJ9, "min", "(II)I"⟩
def RJxa1e45 : String := "java/util/AbstractCollection"
def TJxa1e45 : u_T := fun k => match k with
  | _ => ("", "", "", false)
def tyJxa1e45 : Nat → FieldType := fun k => match k with
  | _ => .int
theorem nmJxa1e45 : ∀ a, a < 0 → ∀ b, b < 0 → a ≠ b → (TJxa1e45 a).2.1 ≠ (TJxa1e45 b).2.1 := by decide +kernel
theorem tyJxa1e45_ok : ∀ k, k < 0 → parseFieldDescriptor (TJxa1e45 k).2.2.1 = some (tyJxa1e45 k) := by decide +kernel
abbrev cJxa1e45_init_da8c8 : ByteArray := prog_27_method_1_code
def yJxa1e45_init_da8c8 : MethodName := ⟨RJxa1e45, "<init>", "()V"⟩
def RJxc12de : String := "java/util/AbstractList"
def TJxc12de : u_T := fun k => match k with
  | _ => ("", "", "", false)
def tyJxc12de : Nat → FieldType := fun k => match k with
  | _ => .int
theorem nmJxc12de : ∀ a, a < 0 → ∀ b, b < 0 → a ≠ b → (TJxc12de a).2.1 ≠ (TJxc12de b).2.1 := by decide +kernel
theorem tyJxc12de_ok : ∀ k, k < 0 → parseFieldDescriptor (TJxc12de k).2.2.1 = some (tyJxc12de k) := by decide +kernel
abbrev cJxc12de_init_da8c8 : ByteArray := prog_28_method_1_code
def yJxc12de_init_da8c8 : MethodName := ⟨RJxc12de, "<init>", "()V"⟩
def RJx4a65c : String := "java/util/ArrayList"
def TJx4a65c : u_T := fun k => match k with
  | 0 => ("java/util/AbstractList", "modCount", "I", false)
  | 1 => ("java/util/ArrayList", "elementData", "[Ljava/lang/Object;", false)
  | _ => ("java/util/ArrayList", "size", "I", false)
def tyJx4a65c : Nat → FieldType := fun k => match k with
  | 0 => .int
  | 1 => .array (.object "java/lang/Object")
  | _ => .int
theorem nmJx4a65c : ∀ a, a < 3 → ∀ b, b < 3 → a ≠ b → (TJx4a65c a).2.1 ≠ (TJx4a65c b).2.1 := by decide +kernel
theorem tyJx4a65c_ok : ∀ k, k < 3 → parseFieldDescriptor (TJx4a65c k).2.2.1 = some (tyJx4a65c k) := by decide +kernel
abbrev cJx4a65c_init_da8c8 : ByteArray := prog_29_method_2_code
def yJx4a65c_init_da8c8 : MethodName := ⟨RJx4a65c, "<init>", "()V"⟩
abbrev cJx4a65c_grow_92f84 : ByteArray := prog_29_method_6_code
def yJx4a65c_grow_92f84 : MethodName := ⟨RJx4a65c, "grow", "(I)[Ljava/lang/Object;"⟩
abbrev cJx4a65c_grow_d5877 : ByteArray := prog_29_method_7_code
def yJx4a65c_grow_d5877 : MethodName := ⟨RJx4a65c, "grow", "()[Ljava/lang/Object;"⟩
abbrev cJx4a65c_size_8abf5 : ByteArray := prog_29_method_8_code
def yJx4a65c_size_8abf5 : MethodName := ⟨RJx4a65c, "size", "()I"⟩
abbrev cJx4a65c_elementData_915e3 : ByteArray := prog_29_method_18_code
def yJx4a65c_elementData_915e3 : MethodName := ⟨RJx4a65c, "elementData", "(I)Ljava/lang/Object;"⟩
abbrev cJx4a65c_get_915e3 : ByteArray := prog_29_method_20_code
def yJx4a65c_get_915e3 : MethodName := ⟨RJx4a65c, "get", "(I)Ljava/lang/Object;"⟩
abbrev cJx4a65c_add_72be8 : ByteArray := prog_29_method_24_code
def yJx4a65c_add_72be8 : MethodName := ⟨RJx4a65c, "add", "(Ljava/lang/Object;[Ljava/lang/Object;I)V"⟩
abbrev cJx4a65c_add_9ea2d : ByteArray := prog_29_method_25_code
def yJx4a65c_add_9ea2d : MethodName := ⟨RJx4a65c, "add", "(Ljava/lang/Object;)Z"⟩
abbrev cJx4a65c_clear_da8c8 : ByteArray := prog_29_method_40_code
def yJx4a65c_clear_da8c8 : MethodName := ⟨RJx4a65c, "clear", "()V"⟩
def RJ7 : String := "java/util/Arrays"
def TJ7 : u_T := fun k => match k with
  | _ => ("", "", "", false)
def tyJ7 : Nat → FieldType := fun k => match k with
  | _ => .int
theorem nmJ7 : ∀ a, a < 0 → ∀ b, b < 0 → a ≠ b → (TJ7 a).2.1 ≠ (TJ7 b).2.1 := by decide +kernel
theorem tyJ7_ok : ∀ k, k < 0 → parseFieldDescriptor (TJ7 k).2.2.1 = some (tyJ7 k) := by decide +kernel
abbrev cJ7_fill_53178 : ByteArray := prog_30_method_103_code
def yJ7_fill_53178 : MethodName := ⟨RJ7, "fill", "([II)V"⟩
abbrev cJ7_copyOf_1904c : ByteArray := prog_30_method_119_code
def yJ7_copyOf_1904c : MethodName := ⟨RJ7, "copyOf", "([Ljava/lang/Object;I)[Ljava/lang/Object;"⟩
abbrev cJ7_copyOf_6403c : ByteArray := prog_30_method_120_code
def yJ7_copyOf_6403c : MethodName := ⟨RJ7, "copyOf", "([Ljava/lang/Object;ILjava/lang/Class;)[Ljava/lang/Object;"⟩
def RJ15 : String := "java/util/Objects"
def TJ15 : u_T := fun k => match k with
  | _ => ("", "", "", false)
def tyJ15 : Nat → FieldType := fun k => match k with
  | _ => .int
theorem nmJ15 : ∀ a, a < 0 → ∀ b, b < 0 → a ≠ b → (TJ15 a).2.1 ≠ (TJ15 b).2.1 := by decide +kernel
theorem tyJ15_ok : ∀ k, k < 0 → parseFieldDescriptor (TJ15 k).2.2.1 = some (tyJ15 k) := by decide +kernel
abbrev cJ15_checkIndex_7cf53 : ByteArray := prog_34_method_17_code
def yJ15_checkIndex_7cf53 : MethodName := ⟨RJ15, "checkIndex", "(II)I"⟩
def RJ8 : String := "jdk/internal/util/ArraysSupport"
def TJ8 : u_T := fun k => match k with
  | _ => ("", "", "", false)
def tyJ8 : Nat → FieldType := fun k => match k with
  | _ => .int
theorem nmJ8 : ∀ a, a < 0 → ∀ b, b < 0 → a ≠ b → (TJ8 a).2.1 ≠ (TJ8 b).2.1 := by decide +kernel
theorem tyJ8_ok : ∀ k, k < 0 → parseFieldDescriptor (TJ8 k).2.2.1 = some (tyJ8 k) := by decide +kernel
abbrev cJ8_newLength_cabcc : ByteArray := prog_37_method_27_code
def yJ8_newLength_cabcc : MethodName := ⟨RJ8, "newLength", "(III)I"⟩
abbrev cJ8_hugeLength_7cf53 : ByteArray := prog_37_method_28_code
def yJ8_hugeLength_7cf53 : MethodName := ⟨RJ8, "hugeLength", "(II)I"⟩
def RJ3 : String := "jdk/internal/util/Preconditions"
def TJ3 : u_T := fun k => match k with
  | _ => ("", "", "", false)
def tyJ3 : Nat → FieldType := fun k => match k with
  | _ => .int
theorem nmJ3 : ∀ a, a < 0 → ∀ b, b < 0 → a ≠ b → (TJ3 a).2.1 ≠ (TJ3 b).2.1 := by decide +kernel
theorem tyJ3_ok : ∀ k, k < 0 → parseFieldDescriptor (TJ3 k).2.2.1 = some (tyJ3 k) := by decide +kernel
abbrev cJ3_checkIndex_8e157 : ByteArray := prog_38_method_11_code
def yJ3_checkIndex_8e157 : MethodName := ⟨RJ3, "checkIndex", "(IILjava/util/function/BiFunction;)I"⟩
def RL : String := "CandlefordLaw"
abbrev cL_addPlace : ByteArray := method_3_code
def yL_addPlace : MethodName := ⟨RL, "addPlace", "(LCandleford;[J)I"⟩
abbrev cL_addStreet : ByteArray := method_4_code
def yL_addStreet : MethodName := ⟨RL, "addStreet", "(LCandleford;IIIZ[J)I"⟩
abbrev cL_addHouse : ByteArray := method_5_code
def yL_addHouse : MethodName := ⟨RL, "addHouse", "(LCandleford;III[J)I"⟩
abbrev cL_addRound : ByteArray := method_6_code
def yL_addRound : MethodName := ⟨RL, "addRound", "(LCandleford;I[J)I"⟩
abbrev cL_assign : ByteArray := method_7_code
def yL_assign : MethodName := ⟨RL, "assign", "(LCandleford;II[J)I"⟩
abbrev cL_setBag : ByteArray := method_8_code
def yL_setBag : MethodName := ⟨RL, "setBag", "(LCandleford;I[J)I"⟩
abbrev cL_letters : ByteArray := method_9_code
def yL_letters : MethodName := ⟨RL, "letters", "(LCandleford;II[J)I"⟩
abbrev cL_parcel : ByteArray := method_10_code
def yL_parcel : MethodName := ⟨RL, "parcel", "(LCandleford;III[J)I"⟩
abbrev cL_roundOf : ByteArray := method_11_code
def yL_roundOf : MethodName := ⟨RL, "roundOf", "(LCandleford;I[J)I"⟩
abbrev cL_houseAt : ByteArray := method_12_code
def yL_houseAt : MethodName := ⟨RL, "houseAt", "(LCandleford;III[J)I"⟩
abbrev cL_lettersOf : ByteArray := method_13_code
def yL_lettersOf : MethodName := ⟨RL, "lettersOf", "(LCandleford;I[J)I"⟩
abbrev cL_isDue : ByteArray := method_14_code
def yL_isDue : MethodName := ⟨RL, "isDue", "(LCandleford;I[J)I"⟩
abbrev cL_due : ByteArray := method_15_code
def yL_due : MethodName := ⟨RL, "due", "(LCandleford;I[J)I"⟩
abbrev cL_distance : ByteArray := method_16_code
def yL_distance : MethodName := ⟨RL, "distance", "(LCandleford;II[J)I"⟩
abbrev cL_distanceByRounds : ByteArray := method_17_code
def yL_distanceByRounds : MethodName := ⟨RL, "distanceByRounds", "(LCandleford;II[J)I"⟩
abbrev cL_needed : ByteArray := method_18_code
def yL_needed : MethodName := ⟨RL, "needed", "(LCandleford;I[J)I"⟩
abbrev cL_hasWalk : ByteArray := method_19_code
def yL_hasWalk : MethodName := ⟨RL, "hasWalk", "(LCandleford;I[J)I"⟩
abbrev cL_walkLength : ByteArray := method_20_code
def yL_walkLength : MethodName := ⟨RL, "walkLength", "(LCandleford;I[J)I"⟩
abbrev cL_lengthByTrying : ByteArray := method_21_code
def yL_lengthByTrying : MethodName := ⟨RL, "lengthByTrying", "(LCandleford;I[J)I"⟩
abbrev cL_passAt : ByteArray := method_22_code
def yL_passAt : MethodName := ⟨RL, "passAt", "(LCandleford;II[J)I"⟩
abbrev cL_walkPlaces : ByteArray := method_23_code
def yL_walkPlaces : MethodName := ⟨RL, "walkPlaces", "(LCandleford;I[J)I"⟩
abbrev cL_walkAt : ByteArray := method_24_code
def yL_walkAt : MethodName := ⟨RL, "walkAt", "(LCandleford;II[J)I"⟩
abbrev cL_walkTime : ByteArray := method_25_code
def yL_walkTime : MethodName := ⟨RL, "walkTime", "(LCandleford;I[J)I"⟩
abbrev cL_isInTime : ByteArray := method_26_code
def yL_isInTime : MethodName := ⟨RL, "isInTime", "(LCandleford;I[J)I"⟩
abbrev cL_walkTo : ByteArray := method_27_code
def yL_walkTo : MethodName := ⟨RL, "walkTo", "(LCandleford;I[J)I"⟩
abbrev cL_deliver : ByteArray := method_28_code
def yL_deliver : MethodName := ⟨RL, "deliver", "(LCandleford;I[J)I"⟩
abbrev cL_saving : ByteArray := method_29_code
def yL_saving : MethodName := ⟨RL, "saving", "(LCandleford;II[J)I"⟩
abbrev cL_mergeInto : ByteArray := method_30_code
def yL_mergeInto : MethodName := ⟨RL, "mergeInto", "(LCandleford;II[J)I"⟩
abbrev cL_bestMerge : ByteArray := method_31_code
def yL_bestMerge : MethodName := ⟨RL, "bestMerge", "(LCandleford;[J)I"⟩
abbrev cL_parcelState : ByteArray := method_32_code
def yL_parcelState : MethodName := ⟨RL, "parcelState", "(LCandleford;I[J)I"⟩
abbrev cL_isHeavy : ByteArray := method_33_code
def yL_isHeavy : MethodName := ⟨RL, "isHeavy", "(LCandleford;I[J)I"⟩
abbrev cL_nextParcel : ByteArray := method_34_code
def yL_nextParcel : MethodName := ⟨RL, "nextParcel", "(LCandleford;[J)I"⟩
abbrev cL_tripOf : ByteArray := method_35_code
def yL_tripOf : MethodName := ⟨RL, "tripOf", "(LCandleford;I[J)I"⟩
abbrev cL_dispatch : ByteArray := method_36_code
def yL_dispatch : MethodName := ⟨RL, "dispatch", "(LCandleford;[J)I"⟩
abbrev cL_lateShare : ByteArray := method_37_code
def yL_lateShare : MethodName := ⟨RL, "lateShare", "(LCandleford;[D)I"⟩
abbrev cL_meanLetters : ByteArray := method_38_code
def yL_meanLetters : MethodName := ⟨RL, "meanLetters", "(LCandleford;[D)I"⟩
abbrev cL_law : ByteArray := code
def yL_law : MethodName := ⟨RL, "law", "([I)Z"⟩
end
section
/-! Tables of the classes, methods and words: what the link rows speak of. -/
section TABS
/-- the kinds of objects: Grid 0, House 1, Parcel 2, Pass 3, Round 4, Street 5, Walk 6, Ways 7, Candleford 8, CandlefordModel 9, ArrayList 10; of arrays: int 11, boolean 12, Object 13, long 14, double 15, the script 16, the list's empty row 17 -/
def mcl : List vw_C := [(RX0, TX0, 3), (RX1, TX1, 5), (RX2, TX2, 4), (RX3, TX3, 6), (RX4, TX4, 1), (RX5, TX5, 7), (RX6, TX6, 7), (RX7, TX7, 3), (RX8, TX8, 13), (RX9, TX9, 37), (RJx4a65c, TJx4a65c, 3)]
def cR (t : Nat) : String := match t with | 0 => RX0 | 1 => RX1 | 2 => RX2 | 3 => RX3 | 4 => RX4 | 5 => RX5 | 6 => RX6 | 7 => RX7 | 8 => RX8 | 9 => RX9 | _ => RJx4a65c
def cT (t : Nat) : u_T := match t with | 0 => TX0 | 1 => TX1 | 2 => TX2 | 3 => TX3 | 4 => TX4 | 5 => TX5 | 6 => TX6 | 7 => TX7 | 8 => TX8 | 9 => TX9 | _ => TJx4a65c
def cY (t : Nat) : Nat → FieldType := match t with | 0 => tyX0 | 1 => tyX1 | 2 => tyX2 | 3 => tyX3 | 4 => tyX4 | 5 => tyX5 | 6 => tyX6 | 7 => tyX7 | 8 => tyX8 | 9 => tyX9 | _ => tyJx4a65c
def cK (t : Nat) : Nat := match t with | 0 => 3 | 1 => 5 | 2 => 4 | 3 => 6 | 4 => 1 | 5 => 7 | 6 => 7 | 7 => 3 | 8 => 13 | 9 => 37 | _ => 3
theorem cT_nm : ∀ t, t < 11 → ∀ a, a < cK t → ∀ b, b < cK t → a ≠ b → (cT t a).2.1 ≠ (cT t b).2.1 := by decide +kernel
theorem cT_ty : ∀ t, t < 11 → ∀ k, k < cK t → parseFieldDescriptor (cT t k).2.2.1 = some (cY t k) := by decide +kernel
theorem cT_in : ∀ t, t < 11 → ∀ w ∈ u_ws (cR t) (cT t) (cK t), w ∈ lw_tbl := by decide +kernel
theorem cK_lt : ∀ t, t < 11 → cK t < 64 := by decide +kernel
/-- a method: its class, code, locals, answer, name, handlers -/
abbrev MI : Type := String × ByteArray × Nat × Option FieldType × String × List (Nat × Nat × Nat × Nat)
def wG : List Cond := lw_tbl.filter goodWord
theorem wG_of {w : Cond} (h : w ∈ lw_tbl) (g : goodWord w = true) : w ∈ wG := List.mem_filter.mpr ⟨h, g⟩
theorem wG_in : ∀ w ∈ wG, w ∈ lw_tbl := fun _ h => (List.mem_filter.mp h).1
theorem wG_good : ∀ w ∈ wG, goodWord w = true := fun _ h => (List.mem_filter.mp h).2
def sels_n : Nat := 69
theorem wG_at (i : Nat) {w : Cond} (h : lw_tbl[i]? = some w ∧ goodWord w = true) : w ∈ wG := wG_of (List.mem_of_getElem? h.1) h.2
theorem cT_gd : ∀ t, t < 11 → ∀ w ∈ u_ws (cR t) (cT t) (cK t), goodWord w = true := by decide +kernel
theorem cT_inG : ∀ t, t < 11 → ∀ w ∈ u_ws (cR t) (cT t) (cK t), w ∈ wG := fun t ht w hw => wG_of (cT_in t ht w hw) (cT_gd t ht w hw)
theorem cT_same : ∀ t, t < 11 → ∀ k, k < cK t → (cT t k).1 = cR t ∨ Cond.sameField (cR t) (cT t k).1 (cT t k).2.1 (cT t k).2.2.1 ∈ lw_tbl := by decide +kernel
def cwd (mi : MI) (y : MethodName) : Cond := match mi.2.2.2.2.2 with
  | [] => Cond.code y mi.2.1 mi.2.2.1 mi.2.2.2.1
  | hh => Cond.codeWith y mi.2.1 mi.2.2.1 mi.2.2.2.1 hh
/-- the words of a call -/
def cwOK (own : String) (mi' : MI) (idx : Nat) (y : MethodName) (n : Nat) : Prop := Cond.methodLink own idx y ∈ wG ∧ cwd mi' y ∈ wG ∧ Cond.initialized y.cls ∈ wG ∧ (y.cls ≠ "java/lang/invoke/MethodHandle" ∧ y.cls ≠ "java/lang/invoke/VarHandle") ∧ (parseMethodDescriptor y.desc).map (fun d => d.parameters.length) = some n
abbrev gcN : MethodName := ⟨"java/lang/Object", "getClass", "()Ljava/lang/Class;"⟩
end TABS
end
section
section WORDS
abbrev iX0_init : MI := (RX0, cX0_init, 3, none, "<init>", [])
abbrev iX0_at : MI := (RX0, cX0_at, 3, some (FieldType.int), "at", [])
abbrev iX0_put : MI := (RX0, cX0_put, 4, none, "put", [])
abbrev iX0_clearRow : MI := (RX0, cX0_clearRow, 3, none, "clearRow", [])
abbrev iX0_lowerRow : MI := (RX0, cX0_lowerRow, 9, none, "lowerRow", [])
abbrev iX1_init : MI := (RX1, cX1_init, 5, none, "<init>", [])
abbrev iX2_init : MI := (RX2, cX2_init, 4, none, "<init>", [])
abbrev iX3_init : MI := (RX3, cX3_init, 5, none, "<init>", [])
abbrev iX3_isForward : MI := (RX3, cX3_isForward, 1, some (FieldType.boolean), "isForward", [])
abbrev iX3_goesBy : MI := (RX3, cX3_goesBy, 3, some (FieldType.boolean), "goesBy", [])
abbrev iX3_lengthTo : MI := (RX3, cX3_lengthTo, 2, some (FieldType.int), "lengthTo", [])
abbrev iX4_init : MI := (RX4, cX4_init, 2, none, "<init>", [])
abbrev iX5_init : MI := (RX5, cX5_init, 6, none, "<init>", [])
abbrev iX6_init : MI := (RX6, cX6_init, 2, none, "<init>", [])
abbrev iX6_clear : MI := (RX6, cX6_clear, 1, none, "clear", [])
abbrev iX6_addNeeds : MI := (RX6, cX6_addNeeds, 5, none, "addNeeds", [])
abbrev iX6_addChoice : MI := (RX6, cX6_addChoice, 2, none, "addChoice", [])
abbrev iX6_allNeeds : MI := (RX6, cX6_allNeeds, 1, some (FieldType.int), "allNeeds", [])
abbrev iX6_isPossible : MI := (RX6, cX6_isPossible, 2, some (FieldType.boolean), "isPossible", [])
abbrev iX6_leastLength : MI := (RX6, cX6_leastLength, 4, some (FieldType.int), "leastLength", [])
abbrev iX6_restWith : MI := (RX6, cX6_restWith, 3, some (FieldType.int), "restWith", [])
abbrev iX6_leastLengthByTrying : MI := (RX6, cX6_leastLengthByTrying, 1, some (FieldType.int), "leastLengthByTrying", [])
abbrev iX6_triedRest : MI := (RX6, cX6_triedRest, 8, some (FieldType.int), "triedRest", [])
abbrev iX6_trace : MI := (RX6, cX6_trace, 6, none, "trace", [])
abbrev iX6_bestPass : MI := (RX6, cX6_bestPass, 6, some ((FieldType.object "Candleford$Pass")), "bestPass", [])
abbrev iX6_goTo : MI := (RX6, cX6_goTo, 5, none, "goTo", [])
abbrev iX6_comeTo : MI := (RX6, cX6_comeTo, 2, none, "comeTo", [])
abbrev iX6_lengthTo : MI := (RX6, cX6_lengthTo, 4, some (FieldType.int), "lengthTo", [])
abbrev iX7_init : MI := (RX7, cX7_init, 2, none, "<init>", [])
abbrev iX7_connect : MI := (RX7, cX7_connect, 5, none, "connect", [])
abbrev iX7_measureFrom : MI := (RX7, cX7_measureFrom, 7, none, "measureFrom", [])
abbrev iX7_nearestNotTaken : MI := (RX7, cX7_nearestNotTaken, 6, some (FieldType.int), "nearestNotTaken", [])
abbrev iX7_leastByRounds : MI := (RX7, cX7_leastByRounds, 8, some (FieldType.int), "leastByRounds", [])
abbrev iX7_reachBy : MI := (RX7, cX7_reachBy, 3, some (FieldType.boolean), "reachBy", [])
abbrev iX7_nextPlace : MI := (RX7, cX7_nextPlace, 4, some (FieldType.int), "nextPlace", [])
abbrev iX8_init : MI := (RX8, cX8_init, 1, none, "<init>", [])
abbrev iX8_addPlace : MI := (RX8, cX8_addPlace, 1, some (FieldType.int), "addPlace", [])
abbrev iX8_addStreet : MI := (RX8, cX8_addStreet, 6, some (FieldType.int), "addStreet", [])
abbrev iX8_addHouse : MI := (RX8, cX8_addHouse, 6, some (FieldType.int), "addHouse", [])
abbrev iX8_addRound : MI := (RX8, cX8_addRound, 2, some (FieldType.int), "addRound", [])
abbrev iX8_assign : MI := (RX8, cX8_assign, 5, some (FieldType.int), "assign", [])
abbrev iX8_setBag : MI := (RX8, cX8_setBag, 3, some (FieldType.int), "setBag", [])
abbrev iX8_letters : MI := (RX8, cX8_letters, 4, some (FieldType.int), "letters", [])
abbrev iX8_parcel : MI := (RX8, cX8_parcel, 5, some (FieldType.int), "parcel", [])
abbrev iX8_newDay : MI := (RX8, cX8_newDay, 3, some (FieldType.int), "newDay", [])
abbrev iX8_places : MI := (RX8, cX8_places, 1, some (FieldType.int), "places", [])
abbrev iX8_streets : MI := (RX8, cX8_streets, 1, some (FieldType.int), "streets", [])
abbrev iX8_houses : MI := (RX8, cX8_houses, 1, some (FieldType.int), "houses", [])
abbrev iX8_roundOf : MI := (RX8, cX8_roundOf, 2, some (FieldType.int), "roundOf", [])
abbrev iX8_houseAt : MI := (RX8, cX8_houseAt, 7, some (FieldType.int), "houseAt", [])
abbrev iX8_lettersOf : MI := (RX8, cX8_lettersOf, 2, some (FieldType.int), "lettersOf", [])
abbrev iX8_isDue : MI := (RX8, cX8_isDue, 2, some (FieldType.boolean), "isDue", [])
abbrev iX8_due : MI := (RX8, cX8_due, 2, some (FieldType.int), "due", [])
abbrev iX8_distance : MI := (RX8, cX8_distance, 3, some (FieldType.int), "distance", [])
abbrev iX8_distanceByRounds : MI := (RX8, cX8_distanceByRounds, 3, some (FieldType.int), "distanceByRounds", [])
abbrev iX8_needed : MI := (RX8, cX8_needed, 2, some (FieldType.int), "needed", [])
abbrev iX8_hasWalk : MI := (RX8, cX8_hasWalk, 2, some (FieldType.boolean), "hasWalk", [])
abbrev iX8_walkLength : MI := (RX8, cX8_walkLength, 2, some (FieldType.int), "walkLength", [])
abbrev iX8_lengthByTrying : MI := (RX8, cX8_lengthByTrying, 2, some (FieldType.int), "lengthByTrying", [])
abbrev iX8_passAt : MI := (RX8, cX8_passAt, 3, some (FieldType.int), "passAt", [])
abbrev iX8_walkPlaces : MI := (RX8, cX8_walkPlaces, 2, some (FieldType.int), "walkPlaces", [])
abbrev iX8_walkAt : MI := (RX8, cX8_walkAt, 3, some (FieldType.int), "walkAt", [])
abbrev iX8_walkTime : MI := (RX8, cX8_walkTime, 2, some (FieldType.int), "walkTime", [])
abbrev iX8_isInTime : MI := (RX8, cX8_isInTime, 4, some (FieldType.boolean), "isInTime", [])
abbrev iX8_walkTo : MI := (RX8, cX8_walkTo, 3, some (FieldType.int), "walkTo", [])
abbrev iX8_deliver : MI := (RX8, cX8_deliver, 6, some (FieldType.int), "deliver", [])
abbrev iX8_saving : MI := (RX8, cX8_saving, 3, some (FieldType.int), "saving", [])
abbrev iX8_mergeInto : MI := (RX8, cX8_mergeInto, 7, some (FieldType.int), "mergeInto", [])
abbrev iX8_bestMerge : MI := (RX8, cX8_bestMerge, 7, some (FieldType.int), "bestMerge", [])
abbrev iX8_parcelState : MI := (RX8, cX8_parcelState, 2, some (FieldType.char), "parcelState", [])
abbrev iX8_isHeavy : MI := (RX8, cX8_isHeavy, 2, some (FieldType.boolean), "isHeavy", [])
abbrev iX8_nextParcel : MI := (RX8, cX8_nextParcel, 6, some (FieldType.int), "nextParcel", [])
abbrev iX8_tripOf : MI := (RX8, cX8_tripOf, 2, some (FieldType.int), "tripOf", [])
abbrev iX8_dispatch : MI := (RX8, cX8_dispatch, 4, some (FieldType.boolean), "dispatch", [])
abbrev iX8_vanClock : MI := (RX8, cX8_vanClock, 1, some (FieldType.int), "vanClock", [])
abbrev iX8_late : MI := (RX8, cX8_late, 1, some (FieldType.int), "late", [])
abbrev iX8_walked : MI := (RX8, cX8_walked, 1, some (FieldType.long), "walked", [])
abbrev iX8_lateShare : MI := (RX8, cX8_lateShare, 1, some (FieldType.float), "lateShare", [])
abbrev iX8_meanLetters : MI := (RX8, cX8_meanLetters, 5, some (FieldType.double), "meanLetters", [])
abbrev iX8_isFrom : MI := (RX8, cX8_isFrom, 3, some (FieldType.boolean), "isFrom", [])
abbrev iX8_noneIfNoWay : MI := (RX8, cX8_noneIfNoWay, 1, some (FieldType.int), "noneIfNoWay", [])
abbrev iX8_checkPlace : MI := (RX8, cX8_checkPlace, 2, none, "checkPlace", [])
abbrev iX8_findStreet : MI := (RX8, cX8_findStreet, 2, some ((FieldType.object "Candleford$Street")), "findStreet", [])
abbrev iX8_findHouse : MI := (RX8, cX8_findHouse, 2, some ((FieldType.object "Candleford$House")), "findHouse", [])
abbrev iX8_findRound : MI := (RX8, cX8_findRound, 2, some ((FieldType.object "Candleford$Round")), "findRound", [])
abbrev iX8_findParcel : MI := (RX8, cX8_findParcel, 2, some ((FieldType.object "Candleford$Parcel")), "findParcel", [])
abbrev iX8_rankOf : MI := (RX8, cX8_rankOf, 6, some (FieldType.int), "rankOf", [])
abbrev iX8_isLight : MI := (RX8, cX8_isLight, 2, some (FieldType.boolean), "isLight", [])
abbrev iX8_hasPost : MI := (RX8, cX8_hasPost, 4, some (FieldType.boolean), "hasPost", [])
abbrev iX8_groupOf : MI := (RX8, cX8_groupOf, 1, some (FieldType.int), "groupOf", [])
abbrev iX8_isIn : MI := (RX8, cX8_isIn, 2, some (FieldType.boolean), "isIn", [])
abbrev iX8_dueHouses : MI := (RX8, cX8_dueHouses, 5, some (FieldType.int), "dueHouses", [])
abbrev iX8_lightParcels : MI := (RX8, cX8_lightParcels, 5, some (FieldType.int), "lightParcels", [])
abbrev iX8_stopTime : MI := (RX8, cX8_stopTime, 2, some (FieldType.int), "stopTime", [])
abbrev iX8_isWithin : MI := (RX8, cX8_isWithin, 4, some (FieldType.boolean), "isWithin", [])
abbrev iX8_handOver : MI := (RX8, cX8_handOver, 4, none, "handOver", [])
abbrev iX8_dueSides : MI := (RX8, cX8_dueSides, 5, some (FieldType.int), "dueSides", [])
abbrev iX8_collect : MI := (RX8, cX8_collect, 4, none, "collect", [])
abbrev iX8_collectWalk : MI := (RX8, cX8_collectWalk, 2, none, "collectWalk", [])
abbrev iX8_lengthOf : MI := (RX8, cX8_lengthOf, 2, some (FieldType.int), "lengthOf", [])
abbrev iX8_checkedSaving : MI := (RX8, cX8_checkedSaving, 6, some (FieldType.int), "checkedSaving", [])
abbrev iX8_measurePairs : MI := (RX8, cX8_measurePairs, 4, none, "measurePairs", [])
abbrev iX8_savedWithin : MI := (RX8, cX8_savedWithin, 8, some (FieldType.int), "savedWithin", [])
abbrev iX8_wayTo : MI := (RX8, cX8_wayTo, 2, some (FieldType.int), "wayTo", [])
abbrev iX8_comesBefore : MI := (RX8, cX8_comesBefore, 3, some (FieldType.boolean), "comesBefore", [])
abbrev iX8_checkedTrip : MI := (RX8, cX8_checkedTrip, 3, some (FieldType.int), "checkedTrip", [])
abbrev iX9_init : MI := (RX9, cX9_init, 1, none, "<init>", [])
abbrev iX9_thrown : MI := (RX9, cX9_thrown, 1, some (FieldType.int), "thrown", [])
abbrev iX9_fails : MI := (RX9, cX9_fails, 2, some (FieldType.int), "fails", [])
abbrev iX9_isBetween : MI := (RX9, cX9_isBetween, 3, some (FieldType.boolean), "isBetween", [])
abbrev iX9_isStreet : MI := (RX9, cX9_isStreet, 2, some (FieldType.boolean), "isStreet", [])
abbrev iX9_isHouse : MI := (RX9, cX9_isHouse, 2, some (FieldType.boolean), "isHouse", [])
abbrev iX9_isRound : MI := (RX9, cX9_isRound, 2, some (FieldType.boolean), "isRound", [])
abbrev iX9_isPlace : MI := (RX9, cX9_isPlace, 2, some (FieldType.boolean), "isPlace", [])
abbrev iX9_isParcel : MI := (RX9, cX9_isParcel, 2, some (FieldType.boolean), "isParcel", [])
abbrev iX9_addPlace : MI := (RX9, cX9_addPlace, 1, some (FieldType.int), "addPlace", [])
abbrev iX9_addStreet : MI := (RX9, cX9_addStreet, 5, some (FieldType.int), "addStreet", [])
abbrev iX9_addHouse : MI := (RX9, cX9_addHouse, 4, some (FieldType.int), "addHouse", [])
abbrev iX9_addRound : MI := (RX9, cX9_addRound, 2, some (FieldType.int), "addRound", [])
abbrev iX9_assign : MI := (RX9, cX9_assign, 4, some (FieldType.int), "assign", [])
abbrev iX9_setBag : MI := (RX9, cX9_setBag, 3, some (FieldType.int), "setBag", [])
abbrev iX9_letters : MI := (RX9, cX9_letters, 3, some (FieldType.int), "letters", [])
abbrev iX9_parcel : MI := (RX9, cX9_parcel, 4, some (FieldType.int), "parcel", [])
abbrev iX9_isLight : MI := (RX9, cX9_isLight, 2, some (FieldType.boolean), "isLight", [])
abbrev iX9_lights : MI := (RX9, cX9_lights, 4, some (FieldType.int), "lights", [])
abbrev iX9_isDueNow : MI := (RX9, cX9_isDueNow, 2, some (FieldType.boolean), "isDueNow", [])
abbrev iX9_newDay : MI := (RX9, cX9_newDay, 3, some (FieldType.int), "newDay", [])
abbrev iX9_places : MI := (RX9, cX9_places, 1, some (FieldType.int), "places", [])
abbrev iX9_streets : MI := (RX9, cX9_streets, 1, some (FieldType.int), "streets", [])
abbrev iX9_houses : MI := (RX9, cX9_houses, 1, some (FieldType.int), "houses", [])
abbrev iX9_roundOf : MI := (RX9, cX9_roundOf, 2, some (FieldType.int), "roundOf", [])
abbrev iX9_houseAt : MI := (RX9, cX9_houseAt, 7, some (FieldType.int), "houseAt", [])
abbrev iX9_lettersOf : MI := (RX9, cX9_lettersOf, 2, some (FieldType.int), "lettersOf", [])
abbrev iX9_isDue : MI := (RX9, cX9_isDue, 2, some (FieldType.boolean), "isDue", [])
abbrev iX9_isAt : MI := (RX9, cX9_isAt, 3, some (FieldType.boolean), "isAt", [])
abbrev iX9_dueAt : MI := (RX9, cX9_dueAt, 4, some (FieldType.int), "dueAt", [])
abbrev iX9_due : MI := (RX9, cX9_due, 2, some (FieldType.int), "due", [])
abbrev iX9_measures : MI := (RX9, cX9_measures, 4, none, "measures", [])
abbrev iX9_distance : MI := (RX9, cX9_distance, 3, some (FieldType.int), "distance", [])
abbrev iX9_distanceByRounds : MI := (RX9, cX9_distanceByRounds, 3, some (FieldType.int), "distanceByRounds", [])
abbrev iX9_isSideDue : MI := (RX9, cX9_isSideDue, 4, some (FieldType.boolean), "isSideDue", [])
abbrev iX9_needs : MI := (RX9, cX9_needs, 2, none, "needs", [])
abbrev iX9_findsNeeds : MI := (RX9, cX9_findsNeeds, 5, none, "findsNeeds", [])
abbrev iX9_from : MI := (RX9, cX9_from, 2, some (FieldType.int), "from", [])
abbrev iX9_to : MI := (RX9, cX9_to, 2, some (FieldType.int), "to", [])
abbrev iX9_needed : MI := (RX9, cX9_needed, 2, some (FieldType.int), "needed", [])
abbrev iX9_chooses : MI := (RX9, cX9_chooses, 3, none, "chooses", [])
abbrev iX9_findsChoices : MI := (RX9, cX9_findsChoices, 2, none, "findsChoices", [])
abbrev iX9_bestChoice : MI := (RX9, cX9_bestChoice, 6, some (FieldType.int), "bestChoice", [])
abbrev iX9_walks : MI := (RX9, cX9_walks, 7, some (FieldType.boolean), "walks", [])
abbrev iX9_isWalkless : MI := (RX9, cX9_isWalkless, 2, some (FieldType.boolean), "isWalkless", [])
abbrev iX9_hasWalk : MI := (RX9, cX9_hasWalk, 2, some (FieldType.boolean), "hasWalk", [])
abbrev iX9_walkLength : MI := (RX9, cX9_walkLength, 2, some (FieldType.int), "walkLength", [])
abbrev iX9_lengthByTrying : MI := (RX9, cX9_lengthByTrying, 2, some (FieldType.int), "lengthByTrying", [])
abbrev iX9_passAt : MI := (RX9, cX9_passAt, 3, some (FieldType.int), "passAt", [])
abbrev iX9_comesTo : MI := (RX9, cX9_comesTo, 2, none, "comesTo", [])
abbrev iX9_shortest : MI := (RX9, cX9_shortest, 5, some (FieldType.int), "shortest", [])
abbrev iX9_goes : MI := (RX9, cX9_goes, 5, none, "goes", [])
abbrev iX9_findsSteps : MI := (RX9, cX9_findsSteps, 3, none, "findsSteps", [])
abbrev iX9_walkPlaces : MI := (RX9, cX9_walkPlaces, 2, some (FieldType.int), "walkPlaces", [])
abbrev iX9_walkAt : MI := (RX9, cX9_walkAt, 3, some (FieldType.int), "walkAt", [])
abbrev iX9_timeOf : MI := (RX9, cX9_timeOf, 4, some (FieldType.int), "timeOf", [])
abbrev iX9_walkTime : MI := (RX9, cX9_walkTime, 2, some (FieldType.int), "walkTime", [])
abbrev iX9_isInTime : MI := (RX9, cX9_isInTime, 2, some (FieldType.boolean), "isInTime", [])
abbrev iX9_passes : MI := (RX9, cX9_passes, 3, some (FieldType.boolean), "passes", [])
abbrev iX9_walkTo : MI := (RX9, cX9_walkTo, 6, some (FieldType.int), "walkTo", [])
abbrev iX9_deliver : MI := (RX9, cX9_deliver, 5, some (FieldType.int), "deliver", [])
abbrev iX9_savingBy : MI := (RX9, cX9_savingBy, 4, some (FieldType.int), "savingBy", [])
abbrev iX9_saving : MI := (RX9, cX9_saving, 3, some (FieldType.int), "saving", [])
abbrev iX9_mergeInto : MI := (RX9, cX9_mergeInto, 5, some (FieldType.int), "mergeInto", [])
abbrev iX9_bestMerge : MI := (RX9, cX9_bestMerge, 6, some (FieldType.int), "bestMerge", [])
abbrev iX9_parcelState : MI := (RX9, cX9_parcelState, 2, some (FieldType.char), "parcelState", [])
abbrev iX9_isHeavy : MI := (RX9, cX9_isHeavy, 2, some (FieldType.boolean), "isHeavy", [])
abbrev iX9_farTo : MI := (RX9, cX9_farTo, 2, some (FieldType.int), "farTo", [])
abbrev iX9_goesFirst : MI := (RX9, cX9_goesFirst, 3, some (FieldType.boolean), "goesFirst", [])
abbrev iX9_nextHeavy : MI := (RX9, cX9_nextHeavy, 3, some (FieldType.int), "nextHeavy", [])
abbrev iX9_nextParcel : MI := (RX9, cX9_nextParcel, 2, some (FieldType.int), "nextParcel", [])
abbrev iX9_trip : MI := (RX9, cX9_trip, 2, some (FieldType.int), "trip", [])
abbrev iX9_tripOf : MI := (RX9, cX9_tripOf, 2, some (FieldType.int), "tripOf", [])
abbrev iX9_dispatch : MI := (RX9, cX9_dispatch, 3, some (FieldType.boolean), "dispatch", [])
abbrev iX9_vanClock : MI := (RX9, cX9_vanClock, 1, some (FieldType.int), "vanClock", [])
abbrev iX9_late : MI := (RX9, cX9_late, 1, some (FieldType.int), "late", [])
abbrev iX9_walked : MI := (RX9, cX9_walked, 1, some (FieldType.long), "walked", [])
abbrev iX9_lateShare : MI := (RX9, cX9_lateShare, 1, some (FieldType.float), "lateShare", [])
abbrev iX9_meanLetters : MI := (RX9, cX9_meanLetters, 4, some (FieldType.double), "meanLetters", [])
abbrev iJ9_max_7cf53 : MI := (RJ9, cJ9_max_7cf53, 2, some (FieldType.int), "max", [])
abbrev iJ9_min_7cf53 : MI := (RJ9, cJ9_min_7cf53, 2, some (FieldType.int), "min", [])
abbrev iJxa1e45_init_da8c8 : MI := (RJxa1e45, cJxa1e45_init_da8c8, 1, none, "<init>", [])
abbrev iJxc12de_init_da8c8 : MI := (RJxc12de, cJxc12de_init_da8c8, 1, none, "<init>", [])
abbrev iJx4a65c_init_da8c8 : MI := (RJx4a65c, cJx4a65c_init_da8c8, 1, none, "<init>", [])
abbrev iJx4a65c_grow_92f84 : MI := (RJx4a65c, cJx4a65c_grow_92f84, 4, some ((FieldType.array (FieldType.object "java/lang/Object"))), "grow", [])
abbrev iJx4a65c_grow_d5877 : MI := (RJx4a65c, cJx4a65c_grow_d5877, 1, some ((FieldType.array (FieldType.object "java/lang/Object"))), "grow", [])
abbrev iJx4a65c_size_8abf5 : MI := (RJx4a65c, cJx4a65c_size_8abf5, 1, some (FieldType.int), "size", [])
abbrev iJx4a65c_elementData_915e3 : MI := (RJx4a65c, cJx4a65c_elementData_915e3, 2, some ((FieldType.object "java/lang/Object")), "elementData", [])
abbrev iJx4a65c_get_915e3 : MI := (RJx4a65c, cJx4a65c_get_915e3, 2, some ((FieldType.object "java/lang/Object")), "get", [])
abbrev iJx4a65c_add_72be8 : MI := (RJx4a65c, cJx4a65c_add_72be8, 4, none, "add", [])
abbrev iJx4a65c_add_9ea2d : MI := (RJx4a65c, cJx4a65c_add_9ea2d, 2, some (FieldType.boolean), "add", [])
abbrev iJx4a65c_clear_da8c8 : MI := (RJx4a65c, cJx4a65c_clear_da8c8, 4, none, "clear", [])
abbrev iJ7_fill_53178 : MI := (RJ7, cJ7_fill_53178, 4, none, "fill", [])
abbrev iJ7_copyOf_1904c : MI := (RJ7, cJ7_copyOf_1904c, 2, some ((FieldType.array (FieldType.object "java/lang/Object"))), "copyOf", [])
abbrev iJ7_copyOf_6403c : MI := (RJ7, cJ7_copyOf_6403c, 4, some ((FieldType.array (FieldType.object "java/lang/Object"))), "copyOf", [])
abbrev iJ15_checkIndex_7cf53 : MI := (RJ15, cJ15_checkIndex_7cf53, 2, some (FieldType.int), "checkIndex", [])
abbrev iJ8_newLength_cabcc : MI := (RJ8, cJ8_newLength_cabcc, 4, some (FieldType.int), "newLength", [])
abbrev iJ8_hugeLength_7cf53 : MI := (RJ8, cJ8_hugeLength_7cf53, 3, some (FieldType.int), "hugeLength", [])
abbrev iJ3_checkIndex_8e157 : MI := (RJ3, cJ3_checkIndex_8e157, 3, some (FieldType.int), "checkIndex", [])
abbrev iL_addPlace : MI := (RL, cL_addPlace, 3, some (FieldType.int), "addPlace", [(0, 8, 11, 13)])
abbrev iL_addStreet : MI := (RL, cL_addStreet, 7, some (FieldType.int), "addStreet", [(0, 14, 17, 19), (0, 14, 21, 21), (0, 14, 25, 13)])
abbrev iL_addHouse : MI := (RL, cL_addHouse, 6, some (FieldType.int), "addHouse", [(0, 12, 15, 19), (0, 12, 19, 21), (0, 12, 23, 13)])
abbrev iL_addRound : MI := (RL, cL_addRound, 4, some (FieldType.int), "addRound", [(0, 9, 12, 21), (0, 9, 15, 13)])
abbrev iL_assign : MI := (RL, cL_assign, 5, some (FieldType.int), "assign", [(0, 10, 13, 19)])
abbrev iL_setBag : MI := (RL, cL_setBag, 4, some (FieldType.int), "setBag", [(0, 9, 12, 21)])
abbrev iL_letters : MI := (RL, cL_letters, 5, some (FieldType.int), "letters", [(0, 10, 13, 19), (0, 10, 17, 21), (0, 10, 21, 13)])
abbrev iL_parcel : MI := (RL, cL_parcel, 6, some (FieldType.int), "parcel", [(0, 12, 15, 19), (0, 12, 19, 21), (0, 12, 23, 13)])
abbrev iL_roundOf : MI := (RL, cL_roundOf, 4, some (FieldType.int), "roundOf", [(0, 9, 12, 19)])
abbrev iL_houseAt : MI := (RL, cL_houseAt, 6, some (FieldType.int), "houseAt", [(0, 12, 15, 19), (0, 12, 19, 21), (0, 12, 23, 50)])
abbrev iL_lettersOf : MI := (RL, cL_lettersOf, 4, some (FieldType.int), "lettersOf", [(0, 9, 12, 19)])
abbrev iL_isDue : MI := (RL, cL_isDue, 4, some (FieldType.int), "isDue", [(0, 16, 19, 19)])
abbrev iL_due : MI := (RL, cL_due, 4, some (FieldType.int), "due", [(0, 9, 12, 19)])
abbrev iL_distance : MI := (RL, cL_distance, 5, some (FieldType.int), "distance", [(0, 10, 13, 19)])
abbrev iL_distanceByRounds : MI := (RL, cL_distanceByRounds, 5, some (FieldType.int), "distanceByRounds", [(0, 10, 13, 19)])
abbrev iL_needed : MI := (RL, cL_needed, 4, some (FieldType.int), "needed", [(0, 9, 12, 19)])
abbrev iL_hasWalk : MI := (RL, cL_hasWalk, 4, some (FieldType.int), "hasWalk", [(0, 16, 19, 19)])
abbrev iL_walkLength : MI := (RL, cL_walkLength, 4, some (FieldType.int), "walkLength", [(0, 9, 12, 19), (0, 9, 15, 13)])
abbrev iL_lengthByTrying : MI := (RL, cL_lengthByTrying, 4, some (FieldType.int), "lengthByTrying", [(0, 9, 12, 19), (0, 9, 15, 13), (0, 9, 18, 80)])
abbrev iL_passAt : MI := (RL, cL_passAt, 5, some (FieldType.int), "passAt", [(0, 10, 13, 19), (0, 10, 17, 13), (0, 10, 21, 50)])
abbrev iL_walkPlaces : MI := (RL, cL_walkPlaces, 4, some (FieldType.int), "walkPlaces", [(0, 9, 12, 19), (0, 9, 15, 13)])
abbrev iL_walkAt : MI := (RL, cL_walkAt, 5, some (FieldType.int), "walkAt", [(0, 10, 13, 19), (0, 10, 17, 13), (0, 10, 21, 50)])
abbrev iL_walkTime : MI := (RL, cL_walkTime, 4, some (FieldType.int), "walkTime", [(0, 9, 12, 19), (0, 9, 15, 13)])
abbrev iL_isInTime : MI := (RL, cL_isInTime, 4, some (FieldType.int), "isInTime", [(0, 16, 19, 19)])
abbrev iL_walkTo : MI := (RL, cL_walkTo, 4, some (FieldType.int), "walkTo", [(0, 9, 12, 19), (0, 9, 15, 80), (0, 9, 18, 13)])
abbrev iL_deliver : MI := (RL, cL_deliver, 4, some (FieldType.int), "deliver", [(0, 9, 12, 19), (0, 9, 15, 13)])
abbrev iL_saving : MI := (RL, cL_saving, 5, some (FieldType.int), "saving", [(0, 10, 13, 19), (0, 10, 17, 21), (0, 10, 21, 13)])
abbrev iL_mergeInto : MI := (RL, cL_mergeInto, 5, some (FieldType.int), "mergeInto", [(0, 10, 13, 19), (0, 10, 17, 21), (0, 10, 21, 13)])
abbrev iL_bestMerge : MI := (RL, cL_bestMerge, 3, some (FieldType.int), "bestMerge", [(0, 8, 11, 19)])
abbrev iL_parcelState : MI := (RL, cL_parcelState, 4, some (FieldType.int), "parcelState", [(0, 9, 12, 19)])
abbrev iL_isHeavy : MI := (RL, cL_isHeavy, 4, some (FieldType.int), "isHeavy", [(0, 16, 19, 19)])
abbrev iL_nextParcel : MI := (RL, cL_nextParcel, 3, some (FieldType.int), "nextParcel", [(0, 8, 11, 19)])
abbrev iL_tripOf : MI := (RL, cL_tripOf, 4, some (FieldType.int), "tripOf", [(0, 9, 12, 19), (0, 9, 15, 80)])
abbrev iL_dispatch : MI := (RL, cL_dispatch, 3, some (FieldType.int), "dispatch", [(0, 15, 18, 19), (0, 15, 21, 80)])
abbrev iL_lateShare : MI := (RL, cL_lateShare, 3, some (FieldType.int), "lateShare", [(0, 8, 11, 133)])
abbrev iL_meanLetters : MI := (RL, cL_meanLetters, 3, some (FieldType.int), "meanLetters", [(0, 7, 10, 133)])
theorem qX8_10 : Cond.fieldLink RX8 10 (cR 8) (cT 8 0).2.1 (cT 8 0).2.2.1 ∈ wG := wG_at 218 (by decide +kernel)
theorem qX8_16 : Cond.fieldLink RX8 16 (cR 8) (cT 8 1).2.1 (cT 8 1).2.2.1 ∈ wG := wG_at 219 (by decide +kernel)
theorem qX8_19 : Cond.fieldLink RX8 19 (cR 8) (cT 8 2).2.1 (cT 8 2).2.2.1 ∈ wG := wG_at 220 (by decide +kernel)
theorem qX8_22 : Cond.fieldLink RX8 22 (cR 8) (cT 8 3).2.1 (cT 8 3).2.2.1 ∈ wG := wG_at 221 (by decide +kernel)
theorem qX8_28 : Cond.fieldLink RX8 28 (cR 8) (cT 8 4).2.1 (cT 8 4).2.2.1 ∈ wG := wG_at 222 (by decide +kernel)
theorem qX8_37 : Cond.fieldLink RX8 37 (cR 8) (cT 8 5).2.1 (cT 8 5).2.2.1 ∈ wG := wG_at 223 (by decide +kernel)
theorem qX8_46 : Cond.fieldLink RX8 46 (cR 8) (cT 8 6).2.1 (cT 8 6).2.2.1 ∈ wG := wG_at 224 (by decide +kernel)
theorem qX8_50 : Cond.fieldLink RX8 50 (cR 8) (cT 8 7).2.1 (cT 8 7).2.2.1 ∈ wG := wG_at 225 (by decide +kernel)
theorem qX8_54 : Cond.fieldLink RX8 54 (cR 8) (cT 8 8).2.1 (cT 8 8).2.2.1 ∈ wG := wG_at 226 (by decide +kernel)
theorem qX8_96 : Cond.fieldLink RX8 96 (cR 5) (cT 5 0).2.1 (cT 5 0).2.2.1 ∈ wG := wG_at 487 (by decide +kernel)
theorem qX8_103 : Cond.fieldLink RX8 103 (cR 5) (cT 5 2).2.1 (cT 5 2).2.2.1 ∈ wG := wG_at 492 (by decide +kernel)
theorem qX8_115 : Cond.fieldLink RX8 115 (cR 1) (cT 1 0).2.1 (cT 1 0).2.2.1 ∈ wG := wG_at 620 (by decide +kernel)
theorem qX8_128 : Cond.fieldLink RX8 128 (cR 5) (cT 5 6).2.1 (cT 5 6).2.2.1 ∈ wG := wG_at 503 (by decide +kernel)
theorem qX8_139 : Cond.fieldLink RX8 139 (cR 1) (cT 1 4).2.1 (cT 1 4).2.2.1 ∈ wG := wG_at 630 (by decide +kernel)
theorem qX8_164 : Cond.fieldLink RX8 164 (cR 8) (cT 8 9).2.1 (cT 8 9).2.2.1 ∈ wG := wG_at 227 (by decide +kernel)
theorem qX8_169 : Cond.fieldLink RX8 169 (cR 1) (cT 1 1).2.1 (cT 1 1).2.2.1 ∈ wG := wG_at 623 (by decide +kernel)
theorem qX8_173 : Cond.fieldLink RX8 173 (cR 1) (cT 1 2).2.1 (cT 1 2).2.2.1 ∈ wG := wG_at 626 (by decide +kernel)
theorem qX8_192 : Cond.fieldLink RX8 192 (cR 7) (cT 7 1).2.1 (cT 7 1).2.2.1 ∈ wG := wG_at 171 (by decide +kernel)
theorem qX8_209 : Cond.fieldLink RX8 209 (cR 6) (cT 6 6).2.1 (cT 6 6).2.2.1 ∈ wG := wG_at 200 (by decide +kernel)
theorem qX8_233 : Cond.fieldLink RX8 233 (cR 6) (cT 6 3).2.1 (cT 6 3).2.2.1 ∈ wG := wG_at 194 (by decide +kernel)
theorem qX8_240 : Cond.fieldLink RX8 240 (cR 3) (cT 3 0).2.1 (cT 3 0).2.2.1 ∈ wG := wG_at 460 (by decide +kernel)
theorem qX8_241 : Cond.fieldLink RX8 241 (cR 6) (cT 6 5).2.1 (cT 6 5).2.2.1 ∈ wG := wG_at 198 (by decide +kernel)
theorem qX8_244 : Cond.fieldLink RX8 244 (cR 6) (cT 6 4).2.1 (cT 6 4).2.2.1 ∈ wG := wG_at 196 (by decide +kernel)
theorem qX8_253 : Cond.fieldLink RX8 253 (cR 4) (cT 4 0).2.1 (cT 4 0).2.2.1 ∈ wG := wG_at 658 (by decide +kernel)
theorem qX8_272 : Cond.fieldLink RX8 272 (cR 8) (cT 8 12).2.1 (cT 8 12).2.2.1 ∈ wG := wG_at 230 (by decide +kernel)
theorem qX8_297 : Cond.fieldLink RX8 297 (cR 2) (cT 2 3).2.1 (cT 2 3).2.2.1 ∈ wG := wG_at 716 (by decide +kernel)
theorem qX8_301 : Cond.fieldLink RX8 301 (cR 2) (cT 2 1).2.1 (cT 2 1).2.2.1 ∈ wG := wG_at 713 (by decide +kernel)
theorem qX8_317 : Cond.fieldLink RX8 317 (cR 8) (cT 8 10).2.1 (cT 8 10).2.2.1 ∈ wG := wG_at 228 (by decide +kernel)
theorem qX8_320 : Cond.fieldLink RX8 320 (cR 2) (cT 2 2).2.1 (cT 2 2).2.2.1 ∈ wG := wG_at 715 (by decide +kernel)
theorem qX8_323 : Cond.fieldLink RX8 323 (cR 8) (cT 8 11).2.1 (cT 8 11).2.2.1 ∈ wG := wG_at 229 (by decide +kernel)
theorem qX8_342 : Cond.fieldLink RX8 342 (cR 1) (cT 1 3).2.1 (cT 1 3).2.2.1 ∈ wG := wG_at 629 (by decide +kernel)
theorem qX8_345 : Cond.fieldLink RX8 345 (cR 2) (cT 2 0).2.1 (cT 2 0).2.2.1 ∈ wG := wG_at 711 (by decide +kernel)
theorem qX8_379 : Cond.fieldLink RX8 379 (cR 5) (cT 5 1).2.1 (cT 5 1).2.2.1 ∈ wG := wG_at 489 (by decide +kernel)
theorem qX0_9 : Cond.fieldLink RX0 9 (cR 0) (cT 0 0).2.1 (cT 0 0).2.2.1 ∈ wG := wG_at 153 (by decide +kernel)
theorem qX0_15 : Cond.fieldLink RX0 15 (cR 0) (cT 0 1).2.1 (cT 0 1).2.2.1 ∈ wG := wG_at 154 (by decide +kernel)
theorem qX0_24 : Cond.fieldLink RX0 24 (cR 0) (cT 0 2).2.1 (cT 0 2).2.2.1 ∈ wG := wG_at 155 (by decide +kernel)
theorem qX1_7 : Cond.fieldLink RX1 7 (cR 1) (cT 1 0).2.1 (cT 1 0).2.2.1 ∈ wG := wG_at 619 (by decide +kernel)
theorem qX1_13 : Cond.fieldLink RX1 13 (cR 1) (cT 1 1).2.1 (cT 1 1).2.2.1 ∈ wG := wG_at 621 (by decide +kernel)
theorem qX1_17 : Cond.fieldLink RX1 17 (cR 1) (cT 1 2).2.1 (cT 1 2).2.2.1 ∈ wG := wG_at 624 (by decide +kernel)
theorem qX1_20 : Cond.fieldLink RX1 20 (cR 1) (cT 1 3).2.1 (cT 1 3).2.2.1 ∈ wG := wG_at 627 (by decide +kernel)
theorem qX2_7 : Cond.fieldLink RX2 7 (cR 2) (cT 2 0).2.1 (cT 2 0).2.2.1 ∈ wG := wG_at 710 (by decide +kernel)
theorem qX2_13 : Cond.fieldLink RX2 13 (cR 2) (cT 2 1).2.1 (cT 2 1).2.2.1 ∈ wG := wG_at 712 (by decide +kernel)
theorem qX2_17 : Cond.fieldLink RX2 17 (cR 2) (cT 2 2).2.1 (cT 2 2).2.2.1 ∈ wG := wG_at 714 (by decide +kernel)
theorem qX3_7 : Cond.fieldLink RX3 7 (cR 3) (cT 3 0).2.1 (cT 3 0).2.2.1 ∈ wG := wG_at 459 (by decide +kernel)
theorem qX3_13 : Cond.fieldLink RX3 13 (cR 3) (cT 3 1).2.1 (cT 3 1).2.2.1 ∈ wG := wG_at 461 (by decide +kernel)
theorem qX3_16 : Cond.fieldLink RX3 16 (cR 3) (cT 3 2).2.1 (cT 3 2).2.2.1 ∈ wG := wG_at 464 (by decide +kernel)
theorem qX3_19 : Cond.fieldLink RX3 19 (cR 3) (cT 3 3).2.1 (cT 3 3).2.2.1 ∈ wG := wG_at 467 (by decide +kernel)
theorem qX3_22 : Cond.fieldLink RX3 22 (cR 1) (cT 1 1).2.1 (cT 1 1).2.2.1 ∈ wG := wG_at 622 (by decide +kernel)
theorem qX3_28 : Cond.fieldLink RX3 28 (cR 5) (cT 5 3).2.1 (cT 5 3).2.2.1 ∈ wG := wG_at 494 (by decide +kernel)
theorem qX3_34 : Cond.fieldLink RX3 34 (cR 1) (cT 1 2).2.1 (cT 1 2).2.2.1 ∈ wG := wG_at 625 (by decide +kernel)
theorem qX3_37 : Cond.fieldLink RX3 37 (cR 5) (cT 5 0).2.1 (cT 5 0).2.2.1 ∈ wG := wG_at 486 (by decide +kernel)
theorem qX3_42 : Cond.fieldLink RX3 42 (cR 1) (cT 1 3).2.1 (cT 1 3).2.2.1 ∈ wG := wG_at 628 (by decide +kernel)
theorem qX4_7 : Cond.fieldLink RX4 7 (cR 4) (cT 4 0).2.1 (cT 4 0).2.2.1 ∈ wG := wG_at 657 (by decide +kernel)
theorem qX5_9 : Cond.fieldLink RX5 9 (cR 5) (cT 5 0).2.1 (cT 5 0).2.2.1 ∈ wG := wG_at 485 (by decide +kernel)
theorem qX5_15 : Cond.fieldLink RX5 15 (cR 5) (cT 5 1).2.1 (cT 5 1).2.2.1 ∈ wG := wG_at 488 (by decide +kernel)
theorem qX5_18 : Cond.fieldLink RX5 18 (cR 5) (cT 5 2).2.1 (cT 5 2).2.2.1 ∈ wG := wG_at 490 (by decide +kernel)
theorem qX5_21 : Cond.fieldLink RX5 21 (cR 5) (cT 5 3).2.1 (cT 5 3).2.2.1 ∈ wG := wG_at 493 (by decide +kernel)
theorem qX5_30 : Cond.fieldLink RX5 30 (cR 5) (cT 5 4).2.1 (cT 5 4).2.2.1 ∈ wG := wG_at 496 (by decide +kernel)
theorem qX5_34 : Cond.fieldLink RX5 34 (cR 5) (cT 5 5).2.1 (cT 5 5).2.2.1 ∈ wG := wG_at 499 (by decide +kernel)
theorem qX5_37 : Cond.fieldLink RX5 37 (cR 5) (cT 5 6).2.1 (cT 5 6).2.2.1 ∈ wG := wG_at 502 (by decide +kernel)
theorem qX6_9 : Cond.fieldLink RX6 9 (cR 6) (cT 6 0).2.1 (cT 6 0).2.2.1 ∈ wG := wG_at 190 (by decide +kernel)
theorem qX6_18 : Cond.fieldLink RX6 18 (cR 6) (cT 6 1).2.1 (cT 6 1).2.2.1 ∈ wG := wG_at 191 (by decide +kernel)
theorem qX6_27 : Cond.fieldLink RX6 27 (cR 6) (cT 6 2).2.1 (cT 6 2).2.2.1 ∈ wG := wG_at 192 (by decide +kernel)
theorem qX6_31 : Cond.fieldLink RX6 31 (cR 6) (cT 6 3).2.1 (cT 6 3).2.2.1 ∈ wG := wG_at 193 (by decide +kernel)
theorem qX6_34 : Cond.fieldLink RX6 34 (cR 6) (cT 6 4).2.1 (cT 6 4).2.2.1 ∈ wG := wG_at 195 (by decide +kernel)
theorem qX6_41 : Cond.fieldLink RX6 41 (cR 6) (cT 6 6).2.1 (cT 6 6).2.2.1 ∈ wG := wG_at 199 (by decide +kernel)
theorem qX6_45 : Cond.fieldLink RX6 45 (cR 5) (cT 5 3).2.1 (cT 5 3).2.2.1 ∈ wG := wG_at 495 (by decide +kernel)
theorem qX6_51 : Cond.fieldLink RX6 51 (cR 5) (cT 5 4).2.1 (cT 5 4).2.2.1 ∈ wG := wG_at 498 (by decide +kernel)
theorem qX6_59 : Cond.fieldLink RX6 59 (cR 5) (cT 5 5).2.1 (cT 5 5).2.2.1 ∈ wG := wG_at 500 (by decide +kernel)
theorem qX6_62 : Cond.fieldLink RX6 62 (cR 3) (cT 3 4).2.1 (cT 3 4).2.2.1 ∈ wG := wG_at 470 (by decide +kernel)
theorem qX6_75 : Cond.fieldLink RX6 75 (cR 7) (cT 7 1).2.1 (cT 7 1).2.2.1 ∈ wG := wG_at 170 (by decide +kernel)
theorem qX6_84 : Cond.fieldLink RX6 84 (cR 3) (cT 3 1).2.1 (cT 3 1).2.2.1 ∈ wG := wG_at 463 (by decide +kernel)
theorem qX6_107 : Cond.fieldLink RX6 107 (cR 3) (cT 3 3).2.1 (cT 3 3).2.2.1 ∈ wG := wG_at 469 (by decide +kernel)
theorem qX6_110 : Cond.fieldLink RX6 110 (cR 3) (cT 3 2).2.1 (cT 3 2).2.2.1 ∈ wG := wG_at 466 (by decide +kernel)
theorem qX6_125 : Cond.fieldLink RX6 125 (cR 6) (cT 6 5).2.1 (cT 6 5).2.2.1 ∈ wG := wG_at 197 (by decide +kernel)
theorem qX6_135 : Cond.fieldLink RX6 135 (cR 3) (cT 3 5).2.1 (cT 3 5).2.2.1 ∈ wG := wG_at 471 (by decide +kernel)
theorem qX7_14 : Cond.fieldLink RX7 14 (cR 7) (cT 7 0).2.1 (cT 7 0).2.2.1 ∈ wG := wG_at 168 (by decide +kernel)
theorem qX7_20 : Cond.fieldLink RX7 20 (cR 7) (cT 7 1).2.1 (cT 7 1).2.2.1 ∈ wG := wG_at 169 (by decide +kernel)
theorem qX7_23 : Cond.fieldLink RX7 23 (cR 7) (cT 7 2).2.1 (cT 7 2).2.2.1 ∈ wG := wG_at 172 (by decide +kernel)
theorem qX7_30 : Cond.fieldLink RX7 30 (cR 5) (cT 5 4).2.1 (cT 5 4).2.2.1 ∈ wG := wG_at 497 (by decide +kernel)
theorem qX7_36 : Cond.fieldLink RX7 36 (cR 5) (cT 5 2).2.1 (cT 5 2).2.2.1 ∈ wG := wG_at 491 (by decide +kernel)
theorem qX7_40 : Cond.fieldLink RX7 40 (cR 3) (cT 3 1).2.1 (cT 3 1).2.2.1 ∈ wG := wG_at 462 (by decide +kernel)
theorem qX7_45 : Cond.fieldLink RX7 45 (cR 3) (cT 3 2).2.1 (cT 3 2).2.2.1 ∈ wG := wG_at 465 (by decide +kernel)
theorem qX7_79 : Cond.fieldLink RX7 79 (cR 5) (cT 5 5).2.1 (cT 5 5).2.2.1 ∈ wG := wG_at 501 (by decide +kernel)
theorem qX7_82 : Cond.fieldLink RX7 82 (cR 3) (cT 3 3).2.1 (cT 3 3).2.2.1 ∈ wG := wG_at 468 (by decide +kernel)
theorem qX9_9 : Cond.fieldLink RX9 9 (cR 9) (cT 9 1).2.1 (cT 9 1).2.2.1 ∈ wG := wG_at 1195 (by decide +kernel)
theorem qX9_13 : Cond.fieldLink RX9 13 (cR 9) (cT 9 2).2.1 (cT 9 2).2.2.1 ∈ wG := wG_at 1196 (by decide +kernel)
theorem qX9_16 : Cond.fieldLink RX9 16 (cR 9) (cT 9 3).2.1 (cT 9 3).2.2.1 ∈ wG := wG_at 1197 (by decide +kernel)
theorem qX9_19 : Cond.fieldLink RX9 19 (cR 9) (cT 9 4).2.1 (cT 9 4).2.2.1 ∈ wG := wG_at 1198 (by decide +kernel)
theorem qX9_22 : Cond.fieldLink RX9 22 (cR 9) (cT 9 5).2.1 (cT 9 5).2.2.1 ∈ wG := wG_at 1199 (by decide +kernel)
theorem qX9_25 : Cond.fieldLink RX9 25 (cR 9) (cT 9 6).2.1 (cT 9 6).2.2.1 ∈ wG := wG_at 1200 (by decide +kernel)
theorem qX9_28 : Cond.fieldLink RX9 28 (cR 9) (cT 9 7).2.1 (cT 9 7).2.2.1 ∈ wG := wG_at 1201 (by decide +kernel)
theorem qX9_31 : Cond.fieldLink RX9 31 (cR 9) (cT 9 8).2.1 (cT 9 8).2.2.1 ∈ wG := wG_at 1202 (by decide +kernel)
theorem qX9_34 : Cond.fieldLink RX9 34 (cR 9) (cT 9 9).2.1 (cT 9 9).2.2.1 ∈ wG := wG_at 1203 (by decide +kernel)
theorem qX9_37 : Cond.fieldLink RX9 37 (cR 9) (cT 9 10).2.1 (cT 9 10).2.2.1 ∈ wG := wG_at 1204 (by decide +kernel)
theorem qX9_40 : Cond.fieldLink RX9 40 (cR 9) (cT 9 11).2.1 (cT 9 11).2.2.1 ∈ wG := wG_at 1205 (by decide +kernel)
theorem qX9_43 : Cond.fieldLink RX9 43 (cR 9) (cT 9 12).2.1 (cT 9 12).2.2.1 ∈ wG := wG_at 1206 (by decide +kernel)
theorem qX9_46 : Cond.fieldLink RX9 46 (cR 9) (cT 9 13).2.1 (cT 9 13).2.2.1 ∈ wG := wG_at 1207 (by decide +kernel)
theorem qX9_50 : Cond.fieldLink RX9 50 (cR 9) (cT 9 14).2.1 (cT 9 14).2.2.1 ∈ wG := wG_at 1208 (by decide +kernel)
theorem qX9_53 : Cond.fieldLink RX9 53 (cR 9) (cT 9 15).2.1 (cT 9 15).2.2.1 ∈ wG := wG_at 1209 (by decide +kernel)
theorem qX9_57 : Cond.fieldLink RX9 57 (cR 9) (cT 9 20).2.1 (cT 9 20).2.2.1 ∈ wG := wG_at 1214 (by decide +kernel)
theorem qX9_60 : Cond.fieldLink RX9 60 (cR 9) (cT 9 25).2.1 (cT 9 25).2.2.1 ∈ wG := wG_at 1219 (by decide +kernel)
theorem qX9_63 : Cond.fieldLink RX9 63 (cR 9) (cT 9 26).2.1 (cT 9 26).2.2.1 ∈ wG := wG_at 1220 (by decide +kernel)
theorem qX9_66 : Cond.fieldLink RX9 66 (cR 9) (cT 9 28).2.1 (cT 9 28).2.2.1 ∈ wG := wG_at 1222 (by decide +kernel)
theorem qX9_69 : Cond.fieldLink RX9 69 (cR 9) (cT 9 29).2.1 (cT 9 29).2.2.1 ∈ wG := wG_at 1223 (by decide +kernel)
theorem qX9_72 : Cond.fieldLink RX9 72 (cR 9) (cT 9 31).2.1 (cT 9 31).2.2.1 ∈ wG := wG_at 1225 (by decide +kernel)
theorem qX9_75 : Cond.fieldLink RX9 75 (cR 9) (cT 9 32).2.1 (cT 9 32).2.2.1 ∈ wG := wG_at 1226 (by decide +kernel)
theorem qX9_78 : Cond.fieldLink RX9 78 (cR 9) (cT 9 35).2.1 (cT 9 35).2.2.1 ∈ wG := wG_at 1229 (by decide +kernel)
theorem qX9_81 : Cond.fieldLink RX9 81 (cR 9) (cT 9 0).2.1 (cT 9 0).2.2.1 ∈ wG := wG_at 1194 (by decide +kernel)
theorem qX9_84 : Cond.fieldLink RX9 84 (cR 9) (cT 9 16).2.1 (cT 9 16).2.2.1 ∈ wG := wG_at 1210 (by decide +kernel)
theorem qX9_91 : Cond.fieldLink RX9 91 (cR 9) (cT 9 17).2.1 (cT 9 17).2.2.1 ∈ wG := wG_at 1211 (by decide +kernel)
theorem qX9_94 : Cond.fieldLink RX9 94 (cR 9) (cT 9 18).2.1 (cT 9 18).2.2.1 ∈ wG := wG_at 1212 (by decide +kernel)
theorem qX9_97 : Cond.fieldLink RX9 97 (cR 9) (cT 9 19).2.1 (cT 9 19).2.2.1 ∈ wG := wG_at 1213 (by decide +kernel)
theorem qX9_126 : Cond.fieldLink RX9 126 (cR 9) (cT 9 21).2.1 (cT 9 21).2.2.1 ∈ wG := wG_at 1215 (by decide +kernel)
theorem qX9_149 : Cond.fieldLink RX9 149 (cR 9) (cT 9 27).2.1 (cT 9 27).2.2.1 ∈ wG := wG_at 1221 (by decide +kernel)
theorem qX9_162 : Cond.fieldLink RX9 162 (cR 9) (cT 9 33).2.1 (cT 9 33).2.2.1 ∈ wG := wG_at 1227 (by decide +kernel)
theorem qX9_169 : Cond.fieldLink RX9 169 (cR 9) (cT 9 34).2.1 (cT 9 34).2.2.1 ∈ wG := wG_at 1228 (by decide +kernel)
theorem qX9_184 : Cond.fieldLink RX9 184 (cR 9) (cT 9 30).2.1 (cT 9 30).2.2.1 ∈ wG := wG_at 1224 (by decide +kernel)
theorem qX9_193 : Cond.fieldLink RX9 193 (cR 9) (cT 9 36).2.1 (cT 9 36).2.2.1 ∈ wG := wG_at 1230 (by decide +kernel)
theorem qX9_214 : Cond.fieldLink RX9 214 (cR 9) (cT 9 24).2.1 (cT 9 24).2.2.1 ∈ wG := wG_at 1218 (by decide +kernel)
theorem qX9_240 : Cond.fieldLink RX9 240 (cR 9) (cT 9 23).2.1 (cT 9 23).2.2.1 ∈ wG := wG_at 1217 (by decide +kernel)
theorem qX9_243 : Cond.fieldLink RX9 243 (cR 9) (cT 9 22).2.1 (cT 9 22).2.2.1 ∈ wG := wG_at 1216 (by decide +kernel)
theorem qJx4a65c_9 : Cond.fieldLink RJx4a65c 9 (cR 10) (cT 10 1).2.1 (cT 10 1).2.2.1 ∈ wG := wG_at 122 (by decide +kernel)
theorem qJx4a65c_48 : Cond.fieldLink RJx4a65c 48 (cR 10) (cT 10 2).2.1 (cT 10 2).2.2.1 ∈ wG := wG_at 123 (by decide +kernel)
theorem qJx4a65c_63 : Cond.fieldLink RJx4a65c 63 (cR 10) (cT 10 0).2.1 (cT 10 0).2.2.1 ∈ wG := wG_at 125 (by decide +kernel)
theorem qJx4a65c_39 : Cond.fieldLink RJx4a65c 39 "java/util/ArrayList" "DEFAULTCAPACITY_EMPTY_ELEMENTDATA" "[Ljava/lang/Object;" ∈ wG := wG_at 120 (by decide +kernel)
theorem vX8_1 : Cond.methodLink RX8 1 Lib.objectInit ∈ wG ∧ Cond.instanceMethod Lib.objectInit ∈ wG ∧ Cond.code Lib.objectInit ⟨#[0xb1]⟩ 1 none ∈ wG := ⟨wG_at 105 (by decide +kernel), wG_at 106 (by decide +kernel), wG_at 107 (by decide +kernel)⟩
theorem vX8_9 : cwOK RX8 iJx4a65c_init_da8c8 9 yJx4a65c_init_da8c8 0 ∧ Cond.instanceMethod yJx4a65c_init_da8c8 ∈ wG := ⟨⟨wG_at 110 (by decide +kernel), wG_at 112 (by decide +kernel), wG_at 73 (by decide +kernel), by decide +kernel, by decide +kernel⟩, wG_at 111 (by decide +kernel)⟩
theorem vX8_27 : cwOK RX8 iX7_init 27 yX7_init 0 ∧ Cond.instanceMethod yX7_init ∈ wG := ⟨⟨wG_at 136 (by decide +kernel), wG_at 138 (by decide +kernel), wG_at 74 (by decide +kernel), by decide +kernel, by decide +kernel⟩, wG_at 137 (by decide +kernel)⟩
theorem vX8_34 : cwOK RX8 iX6_init 34 yX6_init 1 ∧ Cond.instanceMethod yX6_init ∈ wG := ⟨⟨wG_at 182 (by decide +kernel), wG_at 184 (by decide +kernel), wG_at 78 (by decide +kernel), by decide +kernel, by decide +kernel⟩, wG_at 183 (by decide +kernel)⟩
theorem vX8_43 : cwOK RX8 iX0_init 43 yX0_init 2 ∧ Cond.instanceMethod yX0_init ∈ wG := ⟨⟨wG_at 217 (by decide +kernel), wG_at 144 (by decide +kernel), wG_at 75 (by decide +kernel), by decide +kernel, by decide +kernel⟩, wG_at 143 (by decide +kernel)⟩
theorem vX8_64 : cwOK RX8 iX8_checkPlace 64 yX8_checkPlace 1 ∧ Cond.instanceMethod yX8_checkPlace ∈ wG ∧ Cond.selects (cR 8) yX8_checkPlace yX8_checkPlace ∈ wG := ⟨⟨wG_at 407 (by decide +kernel), wG_at 410 (by decide +kernel), wG_at 70 (by decide +kernel), by decide +kernel, by decide +kernel⟩, wG_at 409 (by decide +kernel), wG_at 3 (by decide +kernel)⟩
theorem vX8_68 : cwOK RX8 iX8_isFrom 68 yX8_isFrom 3 ∧ Cond.static yX8_isFrom ∈ wG := ⟨⟨wG_at 427 (by decide +kernel), wG_at 429 (by decide +kernel), wG_at 70 (by decide +kernel), by decide +kernel, by decide +kernel⟩, wG_at 428 (by decide +kernel)⟩
theorem vX8_77 : cwOK RX8 iJx4a65c_size_8abf5 77 yJx4a65c_size_8abf5 0 ∧ Cond.instanceMethod yJx4a65c_size_8abf5 ∈ wG ∧ Cond.selects (cR 10) yJx4a65c_size_8abf5 yJx4a65c_size_8abf5 ∈ wG := ⟨⟨wG_at 262 (by decide +kernel), wG_at 265 (by decide +kernel), wG_at 73 (by decide +kernel), by decide +kernel, by decide +kernel⟩, wG_at 263 (by decide +kernel), wG_at 264 (by decide +kernel)⟩
theorem vX8_85 : cwOK RX8 iX5_init 85 yX5_init 5 ∧ Cond.instanceMethod yX5_init ∈ wG := ⟨⟨wG_at 449 (by decide +kernel), wG_at 451 (by decide +kernel), wG_at 86 (by decide +kernel), by decide +kernel, by decide +kernel⟩, wG_at 450 (by decide +kernel)⟩
theorem vX8_88 : cwOK RX8 iJx4a65c_add_9ea2d 88 yJx4a65c_add_9ea2d 1 ∧ Cond.instanceMethod yJx4a65c_add_9ea2d ∈ wG ∧ Cond.selects (cR 10) yJx4a65c_add_9ea2d yJx4a65c_add_9ea2d ∈ wG := ⟨⟨wG_at 519 (by decide +kernel), wG_at 522 (by decide +kernel), wG_at 73 (by decide +kernel), by decide +kernel, by decide +kernel⟩, wG_at 520 (by decide +kernel), wG_at 521 (by decide +kernel)⟩
theorem vX8_92 : cwOK RX8 iX7_connect 92 yX7_connect 1 ∧ Cond.instanceMethod yX7_connect ∈ wG ∧ Cond.selects (cR 7) yX7_connect yX7_connect ∈ wG := ⟨⟨wG_at 582 (by decide +kernel), wG_at 585 (by decide +kernel), wG_at 74 (by decide +kernel), by decide +kernel, by decide +kernel⟩, wG_at 583 (by decide +kernel), wG_at 584 (by decide +kernel)⟩
theorem vX8_99 : cwOK RX8 iX8_findStreet 99 yX8_findStreet 1 ∧ Cond.instanceMethod yX8_findStreet ∈ wG ∧ Cond.selects (cR 8) yX8_findStreet yX8_findStreet ∈ wG := ⟨⟨wG_at 607 (by decide +kernel), wG_at 610 (by decide +kernel), wG_at 70 (by decide +kernel), by decide +kernel, by decide +kernel⟩, wG_at 609 (by decide +kernel), wG_at 9 (by decide +kernel)⟩
theorem vX8_112 : cwOK RX8 iX1_init 112 yX1_init 4 ∧ Cond.instanceMethod yX1_init ∈ wG := ⟨⟨wG_at 615 (by decide +kernel), wG_at 617 (by decide +kernel), wG_at 92 (by decide +kernel), by decide +kernel, by decide +kernel⟩, wG_at 616 (by decide +kernel)⟩
theorem vX8_122 : cwOK RX8 iX4_init 122 yX4_init 1 ∧ Cond.instanceMethod yX4_init ∈ wG := ⟨⟨wG_at 653 (by decide +kernel), wG_at 655 (by decide +kernel), wG_at 93 (by decide +kernel), by decide +kernel, by decide +kernel⟩, wG_at 654 (by decide +kernel)⟩
theorem vX8_124 : cwOK RX8 iX8_findRound 124 yX8_findRound 1 ∧ Cond.instanceMethod yX8_findRound ∈ wG ∧ Cond.selects (cR 8) yX8_findRound yX8_findRound ∈ wG := ⟨⟨wG_at 669 (by decide +kernel), wG_at 672 (by decide +kernel), wG_at 70 (by decide +kernel), by decide +kernel, by decide +kernel⟩, wG_at 671 (by decide +kernel), wG_at 10 (by decide +kernel)⟩
theorem vX8_133 : cwOK RX8 iX8_findHouse 133 yX8_findHouse 1 ∧ Cond.instanceMethod yX8_findHouse ∈ wG ∧ Cond.selects (cR 8) yX8_findHouse yX8_findHouse ∈ wG := ⟨⟨wG_at 689 (by decide +kernel), wG_at 692 (by decide +kernel), wG_at 70 (by decide +kernel), by decide +kernel, by decide +kernel⟩, wG_at 691 (by decide +kernel), wG_at 11 (by decide +kernel)⟩
theorem vX8_150 : cwOK RX8 iX2_init 150 yX2_init 3 ∧ Cond.instanceMethod yX2_init ∈ wG := ⟨⟨wG_at 706 (by decide +kernel), wG_at 708 (by decide +kernel), wG_at 94 (by decide +kernel), by decide +kernel, by decide +kernel⟩, wG_at 707 (by decide +kernel)⟩
theorem vX8_153 : cwOK RX8 iJx4a65c_get_915e3 153 yJx4a65c_get_915e3 1 ∧ Cond.instanceMethod yJx4a65c_get_915e3 ∈ wG ∧ Cond.selects (cR 10) yJx4a65c_get_915e3 yJx4a65c_get_915e3 ∈ wG := ⟨⟨wG_at 266 (by decide +kernel), wG_at 269 (by decide +kernel), wG_at 73 (by decide +kernel), by decide +kernel, by decide +kernel⟩, wG_at 267 (by decide +kernel), wG_at 268 (by decide +kernel)⟩
theorem vX8_157 : cwOK RX8 iX8_hasPost 157 yX8_hasPost 1 ∧ Cond.instanceMethod yX8_hasPost ∈ wG ∧ Cond.selects (cR 8) yX8_hasPost yX8_hasPost ∈ wG := ⟨⟨wG_at 281 (by decide +kernel), wG_at 284 (by decide +kernel), wG_at 70 (by decide +kernel), by decide +kernel, by decide +kernel⟩, wG_at 283 (by decide +kernel), wG_at 0 (by decide +kernel)⟩
theorem vX8_161 : cwOK RX8 iJx4a65c_clear_da8c8 161 yJx4a65c_clear_da8c8 0 ∧ Cond.instanceMethod yJx4a65c_clear_da8c8 ∈ wG ∧ Cond.selects (cR 10) yJx4a65c_clear_da8c8 yJx4a65c_clear_da8c8 ∈ wG := ⟨⟨wG_at 290 (by decide +kernel), wG_at 293 (by decide +kernel), wG_at 73 (by decide +kernel), by decide +kernel, by decide +kernel⟩, wG_at 291 (by decide +kernel), wG_at 292 (by decide +kernel)⟩
theorem vX8_176 : cwOK RX8 iX8_rankOf 176 yX8_rankOf 1 ∧ Cond.instanceMethod yX8_rankOf ∈ wG ∧ Cond.selects (cR 8) yX8_rankOf yX8_rankOf ∈ wG := ⟨⟨wG_at 765 (by decide +kernel), wG_at 768 (by decide +kernel), wG_at 70 (by decide +kernel), by decide +kernel, by decide +kernel⟩, wG_at 767 (by decide +kernel), wG_at 12 (by decide +kernel)⟩
theorem vX8_185 : cwOK RX8 iX8_groupOf 185 yX8_groupOf 1 ∧ Cond.static yX8_groupOf ∈ wG := ⟨⟨wG_at 803 (by decide +kernel), wG_at 805 (by decide +kernel), wG_at 70 (by decide +kernel), by decide +kernel, by decide +kernel⟩, wG_at 804 (by decide +kernel)⟩
theorem vX8_189 : cwOK RX8 iX8_dueHouses 189 yX8_dueHouses 1 ∧ Cond.instanceMethod yX8_dueHouses ∈ wG ∧ Cond.selects (cR 8) yX8_dueHouses yX8_dueHouses ∈ wG := ⟨⟨wG_at 806 (by decide +kernel), wG_at 809 (by decide +kernel), wG_at 70 (by decide +kernel), by decide +kernel, by decide +kernel⟩, wG_at 808 (by decide +kernel), wG_at 13 (by decide +kernel)⟩
theorem vX8_195 : cwOK RX8 iX0_at 195 yX0_at 2 ∧ Cond.instanceMethod yX0_at ∈ wG ∧ Cond.selects (cR 0) yX0_at yX0_at ∈ wG := ⟨⟨wG_at 820 (by decide +kernel), wG_at 589 (by decide +kernel), wG_at 75 (by decide +kernel), by decide +kernel, by decide +kernel⟩, wG_at 587 (by decide +kernel), wG_at 588 (by decide +kernel)⟩
theorem vX8_199 : cwOK RX8 iX8_noneIfNoWay 199 yX8_noneIfNoWay 1 ∧ Cond.static yX8_noneIfNoWay ∈ wG := ⟨⟨wG_at 821 (by decide +kernel), wG_at 823 (by decide +kernel), wG_at 70 (by decide +kernel), by decide +kernel, by decide +kernel⟩, wG_at 822 (by decide +kernel)⟩
theorem vX8_202 : cwOK RX8 iX7_leastByRounds 202 yX7_leastByRounds 3 ∧ Cond.instanceMethod yX7_leastByRounds ∈ wG ∧ Cond.selects (cR 7) yX7_leastByRounds yX7_leastByRounds ∈ wG := ⟨⟨wG_at 832 (by decide +kernel), wG_at 835 (by decide +kernel), wG_at 74 (by decide +kernel), by decide +kernel, by decide +kernel⟩, wG_at 833 (by decide +kernel), wG_at 834 (by decide +kernel)⟩
theorem vX8_206 : cwOK RX8 iX8_collect 206 yX8_collect 1 ∧ Cond.instanceMethod yX8_collect ∈ wG ∧ Cond.selects (cR 8) yX8_collect yX8_collect ∈ wG := ⟨⟨wG_at 850 (by decide +kernel), wG_at 853 (by decide +kernel), wG_at 70 (by decide +kernel), by decide +kernel, by decide +kernel⟩, wG_at 852 (by decide +kernel), wG_at 15 (by decide +kernel)⟩
theorem vX8_212 : cwOK RX8 iX6_isPossible 212 yX6_isPossible 0 ∧ Cond.instanceMethod yX6_isPossible ∈ wG ∧ Cond.selects (cR 6) yX6_isPossible yX6_isPossible ∈ wG := ⟨⟨wG_at 879 (by decide +kernel), wG_at 882 (by decide +kernel), wG_at 78 (by decide +kernel), by decide +kernel, by decide +kernel⟩, wG_at 880 (by decide +kernel), wG_at 881 (by decide +kernel)⟩
theorem vX8_216 : cwOK RX8 iX8_collectWalk 216 yX8_collectWalk 1 ∧ Cond.instanceMethod yX8_collectWalk ∈ wG ∧ Cond.selects (cR 8) yX8_collectWalk yX8_collectWalk ∈ wG := ⟨⟨wG_at 895 (by decide +kernel), wG_at 898 (by decide +kernel), wG_at 70 (by decide +kernel), by decide +kernel, by decide +kernel⟩, wG_at 897 (by decide +kernel), wG_at 18 (by decide +kernel)⟩
theorem vX8_219 : cwOK RX8 iX6_leastLength 219 yX6_leastLength 0 ∧ Cond.instanceMethod yX6_leastLength ∈ wG ∧ Cond.selects (cR 6) yX6_leastLength yX6_leastLength ∈ wG := ⟨⟨wG_at 900 (by decide +kernel), wG_at 903 (by decide +kernel), wG_at 78 (by decide +kernel), by decide +kernel, by decide +kernel⟩, wG_at 901 (by decide +kernel), wG_at 902 (by decide +kernel)⟩
theorem vX8_227 : cwOK RX8 iX6_leastLengthByTrying 227 yX6_leastLengthByTrying 0 ∧ Cond.instanceMethod yX6_leastLengthByTrying ∈ wG ∧ Cond.selects (cR 6) yX6_leastLengthByTrying yX6_leastLengthByTrying ∈ wG := ⟨⟨wG_at 945 (by decide +kernel), wG_at 948 (by decide +kernel), wG_at 78 (by decide +kernel), by decide +kernel, by decide +kernel⟩, wG_at 946 (by decide +kernel), wG_at 947 (by decide +kernel)⟩
theorem vX8_230 : cwOK RX8 iX6_trace 230 yX6_trace 0 ∧ Cond.instanceMethod yX6_trace ∈ wG ∧ Cond.selects (cR 6) yX6_trace yX6_trace ∈ wG := ⟨⟨wG_at 960 (by decide +kernel), wG_at 963 (by decide +kernel), wG_at 78 (by decide +kernel), by decide +kernel, by decide +kernel⟩, wG_at 961 (by decide +kernel), wG_at 962 (by decide +kernel)⟩
theorem vX8_250 : cwOK RX8 iX8_stopTime 250 yX8_stopTime 1 ∧ Cond.instanceMethod yX8_stopTime ∈ wG ∧ Cond.selects (cR 8) yX8_stopTime yX8_stopTime ∈ wG := ⟨⟨wG_at 1004 (by decide +kernel), wG_at 1007 (by decide +kernel), wG_at 70 (by decide +kernel), by decide +kernel, by decide +kernel⟩, wG_at 1006 (by decide +kernel), wG_at 24 (by decide +kernel)⟩
theorem vX8_256 : cwOK RX8 iX8_lengthOf 256 yX8_lengthOf 1 ∧ Cond.instanceMethod yX8_lengthOf ∈ wG ∧ Cond.selects (cR 8) yX8_lengthOf yX8_lengthOf ∈ wG := ⟨⟨wG_at 1019 (by decide +kernel), wG_at 1022 (by decide +kernel), wG_at 70 (by decide +kernel), by decide +kernel, by decide +kernel⟩, wG_at 1021 (by decide +kernel), wG_at 26 (by decide +kernel)⟩
theorem vX8_259 : cwOK RX8 iX8_isWithin 259 yX8_isWithin 3 ∧ Cond.instanceMethod yX8_isWithin ∈ wG ∧ Cond.selects (cR 8) yX8_isWithin yX8_isWithin ∈ wG := ⟨⟨wG_at 1023 (by decide +kernel), wG_at 1026 (by decide +kernel), wG_at 70 (by decide +kernel), by decide +kernel, by decide +kernel⟩, wG_at 1025 (by decide +kernel), wG_at 27 (by decide +kernel)⟩
theorem vX8_264 : cwOK RX8 iX6_lengthTo 264 yX6_lengthTo 1 ∧ Cond.instanceMethod yX6_lengthTo ∈ wG ∧ Cond.selects (cR 6) yX6_lengthTo yX6_lengthTo ∈ wG := ⟨⟨wG_at 1035 (by decide +kernel), wG_at 1038 (by decide +kernel), wG_at 78 (by decide +kernel), by decide +kernel, by decide +kernel⟩, wG_at 1036 (by decide +kernel), wG_at 1037 (by decide +kernel)⟩
theorem vX8_269 : cwOK RX8 iX8_handOver 269 yX8_handOver 1 ∧ Cond.instanceMethod yX8_handOver ∈ wG ∧ Cond.selects (cR 8) yX8_handOver yX8_handOver ∈ wG := ⟨⟨wG_at 1059 (by decide +kernel), wG_at 1062 (by decide +kernel), wG_at 70 (by decide +kernel), by decide +kernel, by decide +kernel⟩, wG_at 1061 (by decide +kernel), wG_at 28 (by decide +kernel)⟩
theorem vX8_276 : cwOK RX8 iX8_checkedSaving 276 yX8_checkedSaving 2 ∧ Cond.instanceMethod yX8_checkedSaving ∈ wG ∧ Cond.selects (cR 8) yX8_checkedSaving yX8_checkedSaving ∈ wG := ⟨⟨wG_at 1070 (by decide +kernel), wG_at 1073 (by decide +kernel), wG_at 70 (by decide +kernel), by decide +kernel, by decide +kernel⟩, wG_at 1072 (by decide +kernel), wG_at 29 (by decide +kernel)⟩
theorem vX8_281 : cwOK RX8 iX8_measurePairs 281 yX8_measurePairs 0 ∧ Cond.instanceMethod yX8_measurePairs ∈ wG ∧ Cond.selects (cR 8) yX8_measurePairs yX8_measurePairs ∈ wG := ⟨⟨wG_at 1091 (by decide +kernel), wG_at 1094 (by decide +kernel), wG_at 70 (by decide +kernel), by decide +kernel, by decide +kernel⟩, wG_at 1093 (by decide +kernel), wG_at 30 (by decide +kernel)⟩
theorem vX8_284 : cwOK RX8 iX8_savedWithin 284 yX8_savedWithin 3 ∧ Cond.instanceMethod yX8_savedWithin ∈ wG ∧ Cond.selects (cR 8) yX8_savedWithin yX8_savedWithin ∈ wG := ⟨⟨wG_at 1096 (by decide +kernel), wG_at 1099 (by decide +kernel), wG_at 70 (by decide +kernel), by decide +kernel, by decide +kernel⟩, wG_at 1098 (by decide +kernel), wG_at 31 (by decide +kernel)⟩
theorem vX8_293 : cwOK RX8 iX8_findParcel 293 yX8_findParcel 1 ∧ Cond.instanceMethod yX8_findParcel ∈ wG ∧ Cond.selects (cR 8) yX8_findParcel yX8_findParcel ∈ wG := ⟨⟨wG_at 1108 (by decide +kernel), wG_at 1111 (by decide +kernel), wG_at 70 (by decide +kernel), by decide +kernel, by decide +kernel⟩, wG_at 1110 (by decide +kernel), wG_at 32 (by decide +kernel)⟩
theorem vX8_304 : cwOK RX8 iX8_comesBefore 304 yX8_comesBefore 2 ∧ Cond.instanceMethod yX8_comesBefore ∈ wG ∧ Cond.selects (cR 8) yX8_comesBefore yX8_comesBefore ∈ wG := ⟨⟨wG_at 1127 (by decide +kernel), wG_at 1130 (by decide +kernel), wG_at 70 (by decide +kernel), by decide +kernel, by decide +kernel⟩, wG_at 1129 (by decide +kernel), wG_at 33 (by decide +kernel)⟩
theorem vX8_310 : cwOK RX8 iX8_checkedTrip 310 yX8_checkedTrip 1 ∧ Cond.instanceMethod yX8_checkedTrip ∈ wG ∧ Cond.selects (cR 8) yX8_checkedTrip yX8_checkedTrip ∈ wG := ⟨⟨wG_at 1143 (by decide +kernel), wG_at 1146 (by decide +kernel), wG_at 70 (by decide +kernel), by decide +kernel, by decide +kernel⟩, wG_at 1145 (by decide +kernel), wG_at 35 (by decide +kernel)⟩
theorem vX8_314 : cwOK RX8 iX8_nextParcel 314 yX8_nextParcel 0 ∧ Cond.instanceMethod yX8_nextParcel ∈ wG ∧ Cond.selects (cR 8) yX8_nextParcel yX8_nextParcel ∈ wG := ⟨⟨wG_at 1155 (by decide +kernel), wG_at 1126 (by decide +kernel), wG_at 70 (by decide +kernel), by decide +kernel, by decide +kernel⟩, wG_at 1124 (by decide +kernel), wG_at 1125 (by decide +kernel)⟩
theorem vX8_349 : cwOK RX8 iX8_isLight 349 yX8_isLight 1 ∧ Cond.instanceMethod yX8_isLight ∈ wG ∧ Cond.selects (cR 8) yX8_isLight yX8_isLight ∈ wG := ⟨⟨wG_at 286 (by decide +kernel), wG_at 289 (by decide +kernel), wG_at 70 (by decide +kernel), by decide +kernel, by decide +kernel⟩, wG_at 288 (by decide +kernel), wG_at 1 (by decide +kernel)⟩
theorem vX8_353 : cwOK RX8 iX8_isIn 353 yX8_isIn 2 ∧ Cond.static yX8_isIn ∈ wG := ⟨⟨wG_at 810 (by decide +kernel), wG_at 812 (by decide +kernel), wG_at 70 (by decide +kernel), by decide +kernel, by decide +kernel⟩, wG_at 811 (by decide +kernel)⟩
theorem vX8_357 : cwOK RX8 iX8_lightParcels 357 yX8_lightParcels 1 ∧ Cond.instanceMethod yX8_lightParcels ∈ wG ∧ Cond.selects (cR 8) yX8_lightParcels yX8_lightParcels ∈ wG := ⟨⟨wG_at 1008 (by decide +kernel), wG_at 1011 (by decide +kernel), wG_at 70 (by decide +kernel), by decide +kernel, by decide +kernel⟩, wG_at 1010 (by decide +kernel), wG_at 25 (by decide +kernel)⟩
theorem vX8_360 : cwOK RX8 iX6_clear 360 yX6_clear 0 ∧ Cond.instanceMethod yX6_clear ∈ wG ∧ Cond.selects (cR 6) yX6_clear yX6_clear ∈ wG := ⟨⟨wG_at 854 (by decide +kernel), wG_at 857 (by decide +kernel), wG_at 78 (by decide +kernel), by decide +kernel, by decide +kernel⟩, wG_at 855 (by decide +kernel), wG_at 856 (by decide +kernel)⟩
theorem vX8_361 : cwOK RX8 iX8_dueSides 361 yX8_dueSides 1 ∧ Cond.instanceMethod yX8_dueSides ∈ wG ∧ Cond.selects (cR 8) yX8_dueSides yX8_dueSides ∈ wG := ⟨⟨wG_at 859 (by decide +kernel), wG_at 862 (by decide +kernel), wG_at 70 (by decide +kernel), by decide +kernel, by decide +kernel⟩, wG_at 861 (by decide +kernel), wG_at 16 (by decide +kernel)⟩
theorem vX8_365 : cwOK RX8 iX6_addNeeds 365 yX6_addNeeds 2 ∧ Cond.instanceMethod yX6_addNeeds ∈ wG ∧ Cond.selects (cR 6) yX6_addNeeds yX6_addNeeds ∈ wG := ⟨⟨wG_at 863 (by decide +kernel), wG_at 866 (by decide +kernel), wG_at 78 (by decide +kernel), by decide +kernel, by decide +kernel⟩, wG_at 864 (by decide +kernel), wG_at 865 (by decide +kernel)⟩
theorem vX8_375 : cwOK RX8 iX0_put 375 yX0_put 3 ∧ Cond.instanceMethod yX0_put ∈ wG ∧ Cond.selects (cR 0) yX0_put yX0_put ∈ wG := ⟨⟨wG_at 1095 (by decide +kernel), wG_at 167 (by decide +kernel), wG_at 75 (by decide +kernel), by decide +kernel, by decide +kernel⟩, wG_at 165 (by decide +kernel), wG_at 166 (by decide +kernel)⟩
theorem vX8_382 : cwOK RX8 iX8_wayTo 382 yX8_wayTo 1 ∧ Cond.instanceMethod yX8_wayTo ∈ wG ∧ Cond.selects (cR 8) yX8_wayTo yX8_wayTo ∈ wG := ⟨⟨wG_at 1131 (by decide +kernel), wG_at 1134 (by decide +kernel), wG_at 70 (by decide +kernel), by decide +kernel, by decide +kernel⟩, wG_at 1133 (by decide +kernel), wG_at 34 (by decide +kernel)⟩
theorem vX0_3 : Cond.methodLink RX0 3 Lib.objectInit ∈ wG ∧ Cond.instanceMethod Lib.objectInit ∈ wG ∧ Cond.code Lib.objectInit ⟨#[0xb1]⟩ 1 none ∈ wG := ⟨wG_at 145 (by decide +kernel), wG_at 106 (by decide +kernel), wG_at 107 (by decide +kernel)⟩
theorem vX0_18 : cwOK RX0 iJ9_max_7cf53 18 yJ9_max_7cf53 2 ∧ Cond.static yJ9_max_7cf53 ∈ wG := ⟨⟨wG_at 146 (by decide +kernel), wG_at 148 (by decide +kernel), wG_at 76 (by decide +kernel), by decide +kernel, by decide +kernel⟩, wG_at 147 (by decide +kernel)⟩
theorem vX0_29 : cwOK RX0 iJ7_fill_53178 29 yJ7_fill_53178 2 ∧ Cond.static yJ7_fill_53178 ∈ wG := ⟨⟨wG_at 150 (by decide +kernel), wG_at 152 (by decide +kernel), wG_at 77 (by decide +kernel), by decide +kernel, by decide +kernel⟩, wG_at 151 (by decide +kernel)⟩
theorem vX0_35 : cwOK RX0 iX0_put 35 yX0_put 3 ∧ Cond.instanceMethod yX0_put ∈ wG ∧ Cond.selects (cR 0) yX0_put yX0_put ∈ wG := ⟨⟨wG_at 908 (by decide +kernel), wG_at 167 (by decide +kernel), wG_at 75 (by decide +kernel), by decide +kernel, by decide +kernel⟩, wG_at 165 (by decide +kernel), wG_at 166 (by decide +kernel)⟩
theorem vX1_1 : Cond.methodLink RX1 1 Lib.objectInit ∈ wG ∧ Cond.instanceMethod Lib.objectInit ∈ wG ∧ Cond.code Lib.objectInit ⟨#[0xb1]⟩ 1 none ∈ wG := ⟨wG_at 618 (by decide +kernel), wG_at 106 (by decide +kernel), wG_at 107 (by decide +kernel)⟩
theorem vX2_1 : Cond.methodLink RX2 1 Lib.objectInit ∈ wG ∧ Cond.instanceMethod Lib.objectInit ∈ wG ∧ Cond.code Lib.objectInit ⟨#[0xb1]⟩ 1 none ∈ wG := ⟨wG_at 709 (by decide +kernel), wG_at 106 (by decide +kernel), wG_at 107 (by decide +kernel)⟩
theorem vX3_1 : Cond.methodLink RX3 1 Lib.objectInit ∈ wG ∧ Cond.instanceMethod Lib.objectInit ∈ wG ∧ Cond.code Lib.objectInit ⟨#[0xb1]⟩ 1 none ∈ wG := ⟨wG_at 458 (by decide +kernel), wG_at 106 (by decide +kernel), wG_at 107 (by decide +kernel)⟩
theorem vX3_38 : cwOK RX3 iX3_isForward 38 yX3_isForward 0 ∧ Cond.instanceMethod yX3_isForward ∈ wG ∧ Cond.selects (cR 3) yX3_isForward yX3_isForward ∈ wG := ⟨⟨wG_at 1047 (by decide +kernel), wG_at 1050 (by decide +kernel), wG_at 87 (by decide +kernel), by decide +kernel, by decide +kernel⟩, wG_at 1048 (by decide +kernel), wG_at 1049 (by decide +kernel)⟩
theorem vX4_1 : Cond.methodLink RX4 1 Lib.objectInit ∈ wG ∧ Cond.instanceMethod Lib.objectInit ∈ wG ∧ Cond.code Lib.objectInit ⟨#[0xb1]⟩ 1 none ∈ wG := ⟨wG_at 656 (by decide +kernel), wG_at 106 (by decide +kernel), wG_at 107 (by decide +kernel)⟩
theorem vX5_3 : Cond.methodLink RX5 3 Lib.objectInit ∈ wG ∧ Cond.instanceMethod Lib.objectInit ∈ wG ∧ Cond.code Lib.objectInit ⟨#[0xb1]⟩ 1 none ∈ wG := ⟨wG_at 452 (by decide +kernel), wG_at 106 (by decide +kernel), wG_at 107 (by decide +kernel)⟩
theorem vX5_27 : cwOK RX5 iX3_init 27 yX3_init 4 ∧ Cond.instanceMethod yX3_init ∈ wG := ⟨⟨wG_at 455 (by decide +kernel), wG_at 457 (by decide +kernel), wG_at 87 (by decide +kernel), by decide +kernel, by decide +kernel⟩, wG_at 456 (by decide +kernel)⟩
theorem vX6_3 : Cond.methodLink RX6 3 Lib.objectInit ∈ wG ∧ Cond.instanceMethod Lib.objectInit ∈ wG ∧ Cond.code Lib.objectInit ⟨#[0xb1]⟩ 1 none ∈ wG := ⟨wG_at 185 (by decide +kernel), wG_at 106 (by decide +kernel), wG_at 107 (by decide +kernel)⟩
theorem vX6_17 : cwOK RX6 iJx4a65c_init_da8c8 17 yJx4a65c_init_da8c8 0 ∧ Cond.instanceMethod yJx4a65c_init_da8c8 ∈ wG := ⟨⟨wG_at 187 (by decide +kernel), wG_at 112 (by decide +kernel), wG_at 73 (by decide +kernel), by decide +kernel, by decide +kernel⟩, wG_at 111 (by decide +kernel)⟩
theorem vX6_24 : cwOK RX6 iX0_init 24 yX0_init 2 ∧ Cond.instanceMethod yX0_init ∈ wG := ⟨⟨wG_at 189 (by decide +kernel), wG_at 144 (by decide +kernel), wG_at 75 (by decide +kernel), by decide +kernel, by decide +kernel⟩, wG_at 143 (by decide +kernel)⟩
theorem vX6_38 : cwOK RX6 iJx4a65c_clear_da8c8 38 yJx4a65c_clear_da8c8 0 ∧ Cond.instanceMethod yJx4a65c_clear_da8c8 ∈ wG ∧ Cond.selects (cR 10) yJx4a65c_clear_da8c8 yJx4a65c_clear_da8c8 ∈ wG := ⟨⟨wG_at 858 (by decide +kernel), wG_at 293 (by decide +kernel), wG_at 73 (by decide +kernel), by decide +kernel, by decide +kernel⟩, wG_at 291 (by decide +kernel), wG_at 292 (by decide +kernel)⟩
theorem vX6_55 : cwOK RX6 iX6_addChoice 55 yX6_addChoice 1 ∧ Cond.instanceMethod yX6_addChoice ∈ wG ∧ Cond.selects (cR 6) yX6_addChoice yX6_addChoice ∈ wG := ⟨⟨wG_at 867 (by decide +kernel), wG_at 870 (by decide +kernel), wG_at 78 (by decide +kernel), by decide +kernel, by decide +kernel⟩, wG_at 869 (by decide +kernel), wG_at 17 (by decide +kernel)⟩
theorem vX6_67 : cwOK RX6 iJx4a65c_add_9ea2d 67 yJx4a65c_add_9ea2d 1 ∧ Cond.instanceMethod yJx4a65c_add_9ea2d ∈ wG ∧ Cond.selects (cR 10) yJx4a65c_add_9ea2d yJx4a65c_add_9ea2d ∈ wG := ⟨⟨wG_at 871 (by decide +kernel), wG_at 522 (by decide +kernel), wG_at 73 (by decide +kernel), by decide +kernel, by decide +kernel⟩, wG_at 520 (by decide +kernel), wG_at 521 (by decide +kernel)⟩
theorem vX6_71 : cwOK RX6 iJx4a65c_size_8abf5 71 yJx4a65c_size_8abf5 0 ∧ Cond.instanceMethod yJx4a65c_size_8abf5 ∈ wG ∧ Cond.selects (cR 10) yJx4a65c_size_8abf5 yJx4a65c_size_8abf5 ∈ wG := ⟨⟨wG_at 883 (by decide +kernel), wG_at 265 (by decide +kernel), wG_at 73 (by decide +kernel), by decide +kernel, by decide +kernel⟩, wG_at 263 (by decide +kernel), wG_at 264 (by decide +kernel)⟩
theorem vX6_80 : cwOK RX6 iJx4a65c_get_915e3 80 yJx4a65c_get_915e3 1 ∧ Cond.instanceMethod yJx4a65c_get_915e3 ∈ wG ∧ Cond.selects (cR 10) yJx4a65c_get_915e3 yJx4a65c_get_915e3 ∈ wG := ⟨⟨wG_at 884 (by decide +kernel), wG_at 269 (by decide +kernel), wG_at 73 (by decide +kernel), by decide +kernel, by decide +kernel⟩, wG_at 267 (by decide +kernel), wG_at 268 (by decide +kernel)⟩
theorem vX6_87 : cwOK RX6 iX0_at 87 yX0_at 2 ∧ Cond.instanceMethod yX0_at ∈ wG ∧ Cond.selects (cR 0) yX0_at yX0_at ∈ wG := ⟨⟨wG_at 886 (by decide +kernel), wG_at 589 (by decide +kernel), wG_at 75 (by decide +kernel), by decide +kernel, by decide +kernel⟩, wG_at 587 (by decide +kernel), wG_at 588 (by decide +kernel)⟩
theorem vX6_92 : cwOK RX6 iX0_clearRow 92 yX0_clearRow 1 ∧ Cond.instanceMethod yX0_clearRow ∈ wG ∧ Cond.selects (cR 0) yX0_clearRow yX0_clearRow ∈ wG := ⟨⟨wG_at 904 (by decide +kernel), wG_at 907 (by decide +kernel), wG_at 75 (by decide +kernel), by decide +kernel, by decide +kernel⟩, wG_at 905 (by decide +kernel), wG_at 906 (by decide +kernel)⟩
theorem vX6_96 : cwOK RX6 iX0_lowerRow 96 yX0_lowerRow 4 ∧ Cond.instanceMethod yX0_lowerRow ∈ wG ∧ Cond.selects (cR 0) yX0_lowerRow yX0_lowerRow ∈ wG := ⟨⟨wG_at 909 (by decide +kernel), wG_at 912 (by decide +kernel), wG_at 75 (by decide +kernel), by decide +kernel, by decide +kernel⟩, wG_at 910 (by decide +kernel), wG_at 911 (by decide +kernel)⟩
theorem vX6_100 : cwOK RX6 iX6_allNeeds 100 yX6_allNeeds 0 ∧ Cond.instanceMethod yX6_allNeeds ∈ wG ∧ Cond.selects (cR 6) yX6_allNeeds yX6_allNeeds ∈ wG := ⟨⟨wG_at 913 (by decide +kernel), wG_at 916 (by decide +kernel), wG_at 78 (by decide +kernel), by decide +kernel, by decide +kernel⟩, wG_at 915 (by decide +kernel), wG_at 19 (by decide +kernel)⟩
theorem vX6_103 : cwOK RX6 iX6_restWith 103 yX6_restWith 2 ∧ Cond.instanceMethod yX6_restWith ∈ wG ∧ Cond.selects (cR 6) yX6_restWith yX6_restWith ∈ wG := ⟨⟨wG_at 917 (by decide +kernel), wG_at 920 (by decide +kernel), wG_at 78 (by decide +kernel), by decide +kernel, by decide +kernel⟩, wG_at 919 (by decide +kernel), wG_at 20 (by decide +kernel)⟩
theorem vX6_113 : cwOK RX6 iX6_triedRest 113 yX6_triedRest 4 ∧ Cond.static yX6_triedRest ∈ wG := ⟨⟨wG_at 949 (by decide +kernel), wG_at 951 (by decide +kernel), wG_at 78 (by decide +kernel), by decide +kernel, by decide +kernel⟩, wG_at 950 (by decide +kernel)⟩
theorem vX6_117 : cwOK RX6 iJ9_min_7cf53 117 yJ9_min_7cf53 2 ∧ Cond.static yJ9_min_7cf53 ∈ wG := ⟨⟨wG_at 952 (by decide +kernel), wG_at 576 (by decide +kernel), wG_at 76 (by decide +kernel), by decide +kernel, by decide +kernel⟩, wG_at 575 (by decide +kernel)⟩
theorem vX6_122 : cwOK RX6 iX6_leastLength 122 yX6_leastLength 0 ∧ Cond.instanceMethod yX6_leastLength ∈ wG ∧ Cond.selects (cR 6) yX6_leastLength yX6_leastLength ∈ wG := ⟨⟨wG_at 964 (by decide +kernel), wG_at 903 (by decide +kernel), wG_at 78 (by decide +kernel), by decide +kernel, by decide +kernel⟩, wG_at 901 (by decide +kernel), wG_at 902 (by decide +kernel)⟩
theorem vX6_128 : cwOK RX6 iX6_comeTo 128 yX6_comeTo 1 ∧ Cond.instanceMethod yX6_comeTo ∈ wG ∧ Cond.selects (cR 6) yX6_comeTo yX6_comeTo ∈ wG := ⟨⟨wG_at 965 (by decide +kernel), wG_at 968 (by decide +kernel), wG_at 78 (by decide +kernel), by decide +kernel, by decide +kernel⟩, wG_at 967 (by decide +kernel), wG_at 21 (by decide +kernel)⟩
theorem vX6_131 : cwOK RX6 iX6_bestPass 131 yX6_bestPass 2 ∧ Cond.instanceMethod yX6_bestPass ∈ wG ∧ Cond.selects (cR 6) yX6_bestPass yX6_bestPass ∈ wG := ⟨⟨wG_at 969 (by decide +kernel), wG_at 972 (by decide +kernel), wG_at 78 (by decide +kernel), by decide +kernel, by decide +kernel⟩, wG_at 971 (by decide +kernel), wG_at 22 (by decide +kernel)⟩
theorem vX6_138 : cwOK RX6 iX6_goTo 138 yX6_goTo 2 ∧ Cond.instanceMethod yX6_goTo ∈ wG ∧ Cond.selects (cR 6) yX6_goTo yX6_goTo ∈ wG := ⟨⟨wG_at 973 (by decide +kernel), wG_at 976 (by decide +kernel), wG_at 78 (by decide +kernel), by decide +kernel, by decide +kernel⟩, wG_at 975 (by decide +kernel), wG_at 23 (by decide +kernel)⟩
theorem vX6_141 : cwOK RX6 iX7_nextPlace 141 yX7_nextPlace 2 ∧ Cond.instanceMethod yX7_nextPlace ∈ wG ∧ Cond.selects (cR 7) yX7_nextPlace yX7_nextPlace ∈ wG := ⟨⟨wG_at 977 (by decide +kernel), wG_at 980 (by decide +kernel), wG_at 74 (by decide +kernel), by decide +kernel, by decide +kernel⟩, wG_at 978 (by decide +kernel), wG_at 979 (by decide +kernel)⟩
theorem vX6_144 : cwOK RX6 iX3_goesBy 144 yX3_goesBy 1 ∧ Cond.instanceMethod yX3_goesBy ∈ wG ∧ Cond.selects (cR 3) yX3_goesBy yX3_goesBy ∈ wG := ⟨⟨wG_at 1039 (by decide +kernel), wG_at 1042 (by decide +kernel), wG_at 87 (by decide +kernel), by decide +kernel, by decide +kernel⟩, wG_at 1040 (by decide +kernel), wG_at 1041 (by decide +kernel)⟩
theorem vX6_148 : cwOK RX6 iX3_lengthTo 148 yX3_lengthTo 1 ∧ Cond.instanceMethod yX3_lengthTo ∈ wG ∧ Cond.selects (cR 3) yX3_lengthTo yX3_lengthTo ∈ wG := ⟨⟨wG_at 1043 (by decide +kernel), wG_at 1046 (by decide +kernel), wG_at 87 (by decide +kernel), by decide +kernel, by decide +kernel⟩, wG_at 1044 (by decide +kernel), wG_at 1045 (by decide +kernel)⟩
theorem vX7_3 : Cond.methodLink RX7 3 Lib.objectInit ∈ wG ∧ Cond.instanceMethod Lib.objectInit ∈ wG ∧ Cond.code Lib.objectInit ⟨#[0xb1]⟩ 1 none ∈ wG := ⟨wG_at 139 (by decide +kernel), wG_at 106 (by decide +kernel), wG_at 107 (by decide +kernel)⟩
theorem vX7_11 : cwOK RX7 iX0_init 11 yX0_init 2 ∧ Cond.instanceMethod yX0_init ∈ wG := ⟨⟨wG_at 142 (by decide +kernel), wG_at 144 (by decide +kernel), wG_at 75 (by decide +kernel), by decide +kernel, by decide +kernel⟩, wG_at 143 (by decide +kernel)⟩
theorem vX7_26 : cwOK RX7 iX0_put 26 yX0_put 3 ∧ Cond.instanceMethod yX0_put ∈ wG ∧ Cond.selects (cR 0) yX0_put yX0_put ∈ wG := ⟨⟨wG_at 164 (by decide +kernel), wG_at 167 (by decide +kernel), wG_at 75 (by decide +kernel), by decide +kernel, by decide +kernel⟩, wG_at 165 (by decide +kernel), wG_at 166 (by decide +kernel)⟩
theorem vX7_48 : cwOK RX7 iX0_at 48 yX0_at 2 ∧ Cond.instanceMethod yX0_at ∈ wG ∧ Cond.selects (cR 0) yX0_at yX0_at ∈ wG := ⟨⟨wG_at 586 (by decide +kernel), wG_at 589 (by decide +kernel), wG_at 75 (by decide +kernel), by decide +kernel, by decide +kernel⟩, wG_at 587 (by decide +kernel), wG_at 588 (by decide +kernel)⟩
theorem vX7_52 : cwOK RX7 iJ9_min_7cf53 52 yJ9_min_7cf53 2 ∧ Cond.static yJ9_min_7cf53 ∈ wG := ⟨⟨wG_at 590 (by decide +kernel), wG_at 576 (by decide +kernel), wG_at 76 (by decide +kernel), by decide +kernel, by decide +kernel⟩, wG_at 575 (by decide +kernel)⟩
theorem vX7_57 : cwOK RX7 iX7_measureFrom 57 yX7_measureFrom 1 ∧ Cond.instanceMethod yX7_measureFrom ∈ wG ∧ Cond.selects (cR 7) yX7_measureFrom yX7_measureFrom ∈ wG := ⟨⟨wG_at 591 (by decide +kernel), wG_at 594 (by decide +kernel), wG_at 74 (by decide +kernel), by decide +kernel, by decide +kernel⟩, wG_at 593 (by decide +kernel), wG_at 7 (by decide +kernel)⟩
theorem vX7_61 : cwOK RX7 iX7_nearestNotTaken 61 yX7_nearestNotTaken 2 ∧ Cond.instanceMethod yX7_nearestNotTaken ∈ wG ∧ Cond.selects (cR 7) yX7_nearestNotTaken yX7_nearestNotTaken ∈ wG := ⟨⟨wG_at 595 (by decide +kernel), wG_at 598 (by decide +kernel), wG_at 74 (by decide +kernel), by decide +kernel, by decide +kernel⟩, wG_at 597 (by decide +kernel), wG_at 8 (by decide +kernel)⟩
theorem vX7_65 : cwOK RX7 iJx4a65c_size_8abf5 65 yJx4a65c_size_8abf5 0 ∧ Cond.instanceMethod yJx4a65c_size_8abf5 ∈ wG ∧ Cond.selects (cR 10) yJx4a65c_size_8abf5 yJx4a65c_size_8abf5 ∈ wG := ⟨⟨wG_at 836 (by decide +kernel), wG_at 265 (by decide +kernel), wG_at 73 (by decide +kernel), by decide +kernel, by decide +kernel⟩, wG_at 263 (by decide +kernel), wG_at 264 (by decide +kernel)⟩
theorem vX7_71 : cwOK RX7 iJx4a65c_get_915e3 71 yJx4a65c_get_915e3 1 ∧ Cond.instanceMethod yJx4a65c_get_915e3 ∈ wG ∧ Cond.selects (cR 10) yJx4a65c_get_915e3 yJx4a65c_get_915e3 ∈ wG := ⟨⟨wG_at 837 (by decide +kernel), wG_at 269 (by decide +kernel), wG_at 73 (by decide +kernel), by decide +kernel, by decide +kernel⟩, wG_at 267 (by decide +kernel), wG_at 268 (by decide +kernel)⟩
theorem vX7_75 : cwOK RX7 iX7_reachBy 75 yX7_reachBy 1 ∧ Cond.instanceMethod yX7_reachBy ∈ wG ∧ Cond.selects (cR 7) yX7_reachBy yX7_reachBy ∈ wG := ⟨⟨wG_at 839 (by decide +kernel), wG_at 842 (by decide +kernel), wG_at 74 (by decide +kernel), by decide +kernel, by decide +kernel⟩, wG_at 841 (by decide +kernel), wG_at 14 (by decide +kernel)⟩
theorem vL_7 : cwOK RL iX8_addPlace 7 yX8_addPlace 0 ∧ Cond.instanceMethod yX8_addPlace ∈ wG ∧ Cond.selects (cR 8) yX8_addPlace yX8_addPlace ∈ wG := ⟨⟨wG_at 322 (by decide +kernel), wG_at 325 (by decide +kernel), wG_at 70 (by decide +kernel), by decide +kernel, by decide +kernel⟩, wG_at 323 (by decide +kernel), wG_at 324 (by decide +kernel)⟩
theorem vL_15 : cwOK RL iX8_addStreet 15 yX8_addStreet 4 ∧ Cond.instanceMethod yX8_addStreet ∈ wG ∧ Cond.selects (cR 8) yX8_addStreet yX8_addStreet ∈ wG := ⟨⟨wG_at 403 (by decide +kernel), wG_at 406 (by decide +kernel), wG_at 70 (by decide +kernel), by decide +kernel, by decide +kernel⟩, wG_at 404 (by decide +kernel), wG_at 405 (by decide +kernel)⟩
theorem vL_23 : cwOK RL iX8_addHouse 23 yX8_addHouse 3 ∧ Cond.instanceMethod yX8_addHouse ∈ wG ∧ Cond.selects (cR 8) yX8_addHouse yX8_addHouse ∈ wG := ⟨⟨wG_at 603 (by decide +kernel), wG_at 606 (by decide +kernel), wG_at 70 (by decide +kernel), by decide +kernel, by decide +kernel⟩, wG_at 604 (by decide +kernel), wG_at 605 (by decide +kernel)⟩
theorem vL_27 : cwOK RL iX8_addRound 27 yX8_addRound 1 ∧ Cond.instanceMethod yX8_addRound ∈ wG ∧ Cond.selects (cR 8) yX8_addRound yX8_addRound ∈ wG := ⟨⟨wG_at 645 (by decide +kernel), wG_at 648 (by decide +kernel), wG_at 70 (by decide +kernel), by decide +kernel, by decide +kernel⟩, wG_at 646 (by decide +kernel), wG_at 647 (by decide +kernel)⟩
theorem vL_31 : cwOK RL iX8_assign 31 yX8_assign 2 ∧ Cond.instanceMethod yX8_assign ∈ wG ∧ Cond.selects (cR 8) yX8_assign yX8_assign ∈ wG := ⟨⟨wG_at 665 (by decide +kernel), wG_at 668 (by decide +kernel), wG_at 70 (by decide +kernel), by decide +kernel, by decide +kernel⟩, wG_at 666 (by decide +kernel), wG_at 667 (by decide +kernel)⟩
theorem vL_35 : cwOK RL iX8_setBag 35 yX8_setBag 1 ∧ Cond.instanceMethod yX8_setBag ∈ wG ∧ Cond.selects (cR 8) yX8_setBag yX8_setBag ∈ wG := ⟨⟨wG_at 677 (by decide +kernel), wG_at 680 (by decide +kernel), wG_at 70 (by decide +kernel), by decide +kernel, by decide +kernel⟩, wG_at 678 (by decide +kernel), wG_at 679 (by decide +kernel)⟩
theorem vL_38 : cwOK RL iX8_letters 38 yX8_letters 2 ∧ Cond.instanceMethod yX8_letters ∈ wG ∧ Cond.selects (cR 8) yX8_letters yX8_letters ∈ wG := ⟨⟨wG_at 685 (by decide +kernel), wG_at 688 (by decide +kernel), wG_at 70 (by decide +kernel), by decide +kernel, by decide +kernel⟩, wG_at 686 (by decide +kernel), wG_at 687 (by decide +kernel)⟩
theorem vL_41 : cwOK RL iX8_parcel 41 yX8_parcel 3 ∧ Cond.instanceMethod yX8_parcel ∈ wG ∧ Cond.selects (cR 8) yX8_parcel yX8_parcel ∈ wG := ⟨⟨wG_at 699 (by decide +kernel), wG_at 702 (by decide +kernel), wG_at 70 (by decide +kernel), by decide +kernel, by decide +kernel⟩, wG_at 700 (by decide +kernel), wG_at 701 (by decide +kernel)⟩
theorem vL_44 : cwOK RL iX8_roundOf 44 yX8_roundOf 1 ∧ Cond.instanceMethod yX8_roundOf ∈ wG ∧ Cond.selects (cR 8) yX8_roundOf yX8_roundOf ∈ wG := ⟨⟨wG_at 729 (by decide +kernel), wG_at 732 (by decide +kernel), wG_at 70 (by decide +kernel), by decide +kernel, by decide +kernel⟩, wG_at 730 (by decide +kernel), wG_at 731 (by decide +kernel)⟩
theorem vL_47 : cwOK RL iX8_houseAt 47 yX8_houseAt 3 ∧ Cond.instanceMethod yX8_houseAt ∈ wG ∧ Cond.selects (cR 8) yX8_houseAt yX8_houseAt ∈ wG := ⟨⟨wG_at 760 (by decide +kernel), wG_at 763 (by decide +kernel), wG_at 70 (by decide +kernel), by decide +kernel, by decide +kernel⟩, wG_at 761 (by decide +kernel), wG_at 762 (by decide +kernel)⟩
theorem vL_52 : cwOK RL iX8_lettersOf 52 yX8_lettersOf 1 ∧ Cond.instanceMethod yX8_lettersOf ∈ wG ∧ Cond.selects (cR 8) yX8_lettersOf yX8_lettersOf ∈ wG := ⟨⟨wG_at 785 (by decide +kernel), wG_at 788 (by decide +kernel), wG_at 70 (by decide +kernel), by decide +kernel, by decide +kernel⟩, wG_at 786 (by decide +kernel), wG_at 787 (by decide +kernel)⟩
theorem vL_55 : cwOK RL iX8_isDue 55 yX8_isDue 1 ∧ Cond.instanceMethod yX8_isDue ∈ wG ∧ Cond.selects (cR 8) yX8_isDue yX8_isDue ∈ wG := ⟨⟨wG_at 792 (by decide +kernel), wG_at 795 (by decide +kernel), wG_at 70 (by decide +kernel), by decide +kernel, by decide +kernel⟩, wG_at 793 (by decide +kernel), wG_at 794 (by decide +kernel)⟩
theorem vL_59 : cwOK RL iX8_due 59 yX8_due 1 ∧ Cond.instanceMethod yX8_due ∈ wG ∧ Cond.selects (cR 8) yX8_due yX8_due ∈ wG := ⟨⟨wG_at 799 (by decide +kernel), wG_at 802 (by decide +kernel), wG_at 70 (by decide +kernel), by decide +kernel, by decide +kernel⟩, wG_at 800 (by decide +kernel), wG_at 801 (by decide +kernel)⟩
theorem vL_62 : cwOK RL iX8_distance 62 yX8_distance 2 ∧ Cond.instanceMethod yX8_distance ∈ wG ∧ Cond.selects (cR 8) yX8_distance yX8_distance ∈ wG := ⟨⟨wG_at 816 (by decide +kernel), wG_at 819 (by decide +kernel), wG_at 70 (by decide +kernel), by decide +kernel, by decide +kernel⟩, wG_at 817 (by decide +kernel), wG_at 818 (by decide +kernel)⟩
theorem vL_65 : cwOK RL iX8_distanceByRounds 65 yX8_distanceByRounds 2 ∧ Cond.instanceMethod yX8_distanceByRounds ∈ wG ∧ Cond.selects (cR 8) yX8_distanceByRounds yX8_distanceByRounds ∈ wG := ⟨⟨wG_at 828 (by decide +kernel), wG_at 831 (by decide +kernel), wG_at 70 (by decide +kernel), by decide +kernel, by decide +kernel⟩, wG_at 829 (by decide +kernel), wG_at 830 (by decide +kernel)⟩
theorem vL_68 : cwOK RL iX8_needed 68 yX8_needed 1 ∧ Cond.instanceMethod yX8_needed ∈ wG ∧ Cond.selects (cR 8) yX8_needed yX8_needed ∈ wG := ⟨⟨wG_at 846 (by decide +kernel), wG_at 849 (by decide +kernel), wG_at 70 (by decide +kernel), by decide +kernel, by decide +kernel⟩, wG_at 847 (by decide +kernel), wG_at 848 (by decide +kernel)⟩
theorem vL_71 : cwOK RL iX8_hasWalk 71 yX8_hasWalk 1 ∧ Cond.instanceMethod yX8_hasWalk ∈ wG ∧ Cond.selects (cR 8) yX8_hasWalk yX8_hasWalk ∈ wG := ⟨⟨wG_at 875 (by decide +kernel), wG_at 878 (by decide +kernel), wG_at 70 (by decide +kernel), by decide +kernel, by decide +kernel⟩, wG_at 876 (by decide +kernel), wG_at 877 (by decide +kernel)⟩
theorem vL_74 : cwOK RL iX8_walkLength 74 yX8_walkLength 1 ∧ Cond.instanceMethod yX8_walkLength ∈ wG ∧ Cond.selects (cR 8) yX8_walkLength yX8_walkLength ∈ wG := ⟨⟨wG_at 891 (by decide +kernel), wG_at 894 (by decide +kernel), wG_at 70 (by decide +kernel), by decide +kernel, by decide +kernel⟩, wG_at 892 (by decide +kernel), wG_at 893 (by decide +kernel)⟩
theorem vL_77 : cwOK RL iX8_lengthByTrying 77 yX8_lengthByTrying 1 ∧ Cond.instanceMethod yX8_lengthByTrying ∈ wG ∧ Cond.selects (cR 8) yX8_lengthByTrying yX8_lengthByTrying ∈ wG := ⟨⟨wG_at 925 (by decide +kernel), wG_at 928 (by decide +kernel), wG_at 70 (by decide +kernel), by decide +kernel, by decide +kernel⟩, wG_at 926 (by decide +kernel), wG_at 927 (by decide +kernel)⟩
theorem vL_82 : cwOK RL iX8_passAt 82 yX8_passAt 2 ∧ Cond.instanceMethod yX8_passAt ∈ wG ∧ Cond.selects (cR 8) yX8_passAt yX8_passAt ∈ wG := ⟨⟨wG_at 956 (by decide +kernel), wG_at 959 (by decide +kernel), wG_at 70 (by decide +kernel), by decide +kernel, by decide +kernel⟩, wG_at 957 (by decide +kernel), wG_at 958 (by decide +kernel)⟩
theorem vL_85 : cwOK RL iX8_walkPlaces 85 yX8_walkPlaces 1 ∧ Cond.instanceMethod yX8_walkPlaces ∈ wG ∧ Cond.selects (cR 8) yX8_walkPlaces yX8_walkPlaces ∈ wG := ⟨⟨wG_at 986 (by decide +kernel), wG_at 989 (by decide +kernel), wG_at 70 (by decide +kernel), by decide +kernel, by decide +kernel⟩, wG_at 987 (by decide +kernel), wG_at 988 (by decide +kernel)⟩
theorem vL_88 : cwOK RL iX8_walkAt 88 yX8_walkAt 2 ∧ Cond.instanceMethod yX8_walkAt ∈ wG ∧ Cond.selects (cR 8) yX8_walkAt yX8_walkAt ∈ wG := ⟨⟨wG_at 993 (by decide +kernel), wG_at 996 (by decide +kernel), wG_at 70 (by decide +kernel), by decide +kernel, by decide +kernel⟩, wG_at 994 (by decide +kernel), wG_at 995 (by decide +kernel)⟩
theorem vL_91 : cwOK RL iX8_walkTime 91 yX8_walkTime 1 ∧ Cond.instanceMethod yX8_walkTime ∈ wG ∧ Cond.selects (cR 8) yX8_walkTime yX8_walkTime ∈ wG := ⟨⟨wG_at 1000 (by decide +kernel), wG_at 1003 (by decide +kernel), wG_at 70 (by decide +kernel), by decide +kernel, by decide +kernel⟩, wG_at 1001 (by decide +kernel), wG_at 1002 (by decide +kernel)⟩
theorem vL_94 : cwOK RL iX8_isInTime 94 yX8_isInTime 1 ∧ Cond.instanceMethod yX8_isInTime ∈ wG ∧ Cond.selects (cR 8) yX8_isInTime yX8_isInTime ∈ wG := ⟨⟨wG_at 1015 (by decide +kernel), wG_at 1018 (by decide +kernel), wG_at 70 (by decide +kernel), by decide +kernel, by decide +kernel⟩, wG_at 1016 (by decide +kernel), wG_at 1017 (by decide +kernel)⟩
theorem vL_97 : cwOK RL iX8_walkTo 97 yX8_walkTo 1 ∧ Cond.instanceMethod yX8_walkTo ∈ wG ∧ Cond.selects (cR 8) yX8_walkTo yX8_walkTo ∈ wG := ⟨⟨wG_at 1030 (by decide +kernel), wG_at 1033 (by decide +kernel), wG_at 70 (by decide +kernel), by decide +kernel, by decide +kernel⟩, wG_at 1031 (by decide +kernel), wG_at 1032 (by decide +kernel)⟩
theorem vL_100 : cwOK RL iX8_deliver 100 yX8_deliver 1 ∧ Cond.instanceMethod yX8_deliver ∈ wG ∧ Cond.selects (cR 8) yX8_deliver yX8_deliver ∈ wG := ⟨⟨wG_at 1054 (by decide +kernel), wG_at 1057 (by decide +kernel), wG_at 70 (by decide +kernel), by decide +kernel, by decide +kernel⟩, wG_at 1055 (by decide +kernel), wG_at 1056 (by decide +kernel)⟩
theorem vL_103 : cwOK RL iX8_saving 103 yX8_saving 2 ∧ Cond.instanceMethod yX8_saving ∈ wG ∧ Cond.selects (cR 8) yX8_saving yX8_saving ∈ wG := ⟨⟨wG_at 1066 (by decide +kernel), wG_at 1069 (by decide +kernel), wG_at 70 (by decide +kernel), by decide +kernel, by decide +kernel⟩, wG_at 1067 (by decide +kernel), wG_at 1068 (by decide +kernel)⟩
theorem vL_106 : cwOK RL iX8_mergeInto 106 yX8_mergeInto 2 ∧ Cond.instanceMethod yX8_mergeInto ∈ wG ∧ Cond.selects (cR 8) yX8_mergeInto yX8_mergeInto ∈ wG := ⟨⟨wG_at 1079 (by decide +kernel), wG_at 1082 (by decide +kernel), wG_at 70 (by decide +kernel), by decide +kernel, by decide +kernel⟩, wG_at 1080 (by decide +kernel), wG_at 1081 (by decide +kernel)⟩
theorem vL_109 : cwOK RL iX8_bestMerge 109 yX8_bestMerge 0 ∧ Cond.instanceMethod yX8_bestMerge ∈ wG ∧ Cond.selects (cR 8) yX8_bestMerge yX8_bestMerge ∈ wG := ⟨⟨wG_at 1087 (by decide +kernel), wG_at 1090 (by decide +kernel), wG_at 70 (by decide +kernel), by decide +kernel, by decide +kernel⟩, wG_at 1088 (by decide +kernel), wG_at 1089 (by decide +kernel)⟩
theorem vL_112 : cwOK RL iX8_parcelState 112 yX8_parcelState 1 ∧ Cond.instanceMethod yX8_parcelState ∈ wG ∧ Cond.selects (cR 8) yX8_parcelState yX8_parcelState ∈ wG := ⟨⟨wG_at 1104 (by decide +kernel), wG_at 1107 (by decide +kernel), wG_at 70 (by decide +kernel), by decide +kernel, by decide +kernel⟩, wG_at 1105 (by decide +kernel), wG_at 1106 (by decide +kernel)⟩
theorem vL_116 : cwOK RL iX8_isHeavy 116 yX8_isHeavy 1 ∧ Cond.instanceMethod yX8_isHeavy ∈ wG ∧ Cond.selects (cR 8) yX8_isHeavy yX8_isHeavy ∈ wG := ⟨⟨wG_at 1116 (by decide +kernel), wG_at 1119 (by decide +kernel), wG_at 70 (by decide +kernel), by decide +kernel, by decide +kernel⟩, wG_at 1117 (by decide +kernel), wG_at 1118 (by decide +kernel)⟩
theorem vL_119 : cwOK RL iX8_nextParcel 119 yX8_nextParcel 0 ∧ Cond.instanceMethod yX8_nextParcel ∈ wG ∧ Cond.selects (cR 8) yX8_nextParcel yX8_nextParcel ∈ wG := ⟨⟨wG_at 1123 (by decide +kernel), wG_at 1126 (by decide +kernel), wG_at 70 (by decide +kernel), by decide +kernel, by decide +kernel⟩, wG_at 1124 (by decide +kernel), wG_at 1125 (by decide +kernel)⟩
theorem vL_122 : cwOK RL iX8_tripOf 122 yX8_tripOf 1 ∧ Cond.instanceMethod yX8_tripOf ∈ wG ∧ Cond.selects (cR 8) yX8_tripOf yX8_tripOf ∈ wG := ⟨⟨wG_at 1139 (by decide +kernel), wG_at 1142 (by decide +kernel), wG_at 70 (by decide +kernel), by decide +kernel, by decide +kernel⟩, wG_at 1140 (by decide +kernel), wG_at 1141 (by decide +kernel)⟩
theorem vL_125 : cwOK RL iX8_dispatch 125 yX8_dispatch 0 ∧ Cond.instanceMethod yX8_dispatch ∈ wG ∧ Cond.selects (cR 8) yX8_dispatch yX8_dispatch ∈ wG := ⟨⟨wG_at 1151 (by decide +kernel), wG_at 1154 (by decide +kernel), wG_at 70 (by decide +kernel), by decide +kernel, by decide +kernel⟩, wG_at 1152 (by decide +kernel), wG_at 1153 (by decide +kernel)⟩
theorem vL_129 : cwOK RL iX8_lateShare 129 yX8_lateShare 0 ∧ Cond.instanceMethod yX8_lateShare ∈ wG ∧ Cond.selects (cR 8) yX8_lateShare yX8_lateShare ∈ wG := ⟨⟨wG_at 1173 (by decide +kernel), wG_at 1176 (by decide +kernel), wG_at 70 (by decide +kernel), by decide +kernel, by decide +kernel⟩, wG_at 1174 (by decide +kernel), wG_at 1175 (by decide +kernel)⟩
theorem vL_135 : cwOK RL iX8_meanLetters 135 yX8_meanLetters 0 ∧ Cond.instanceMethod yX8_meanLetters ∈ wG ∧ Cond.selects (cR 8) yX8_meanLetters yX8_meanLetters ∈ wG := ⟨⟨wG_at 1183 (by decide +kernel), wG_at 1186 (by decide +kernel), wG_at 70 (by decide +kernel), by decide +kernel, by decide +kernel⟩, wG_at 1184 (by decide +kernel), wG_at 1185 (by decide +kernel)⟩
theorem vL_139 : cwOK RL iX8_init 139 yX8_init 0 ∧ Cond.instanceMethod yX8_init ∈ wG := ⟨⟨wG_at 102 (by decide +kernel), wG_at 104 (by decide +kernel), wG_at 70 (by decide +kernel), by decide +kernel, by decide +kernel⟩, wG_at 103 (by decide +kernel)⟩
theorem vL_142 : cwOK RL iX9_init 142 yX9_init 0 ∧ Cond.instanceMethod yX9_init ∈ wG := ⟨⟨wG_at 1190 (by decide +kernel), wG_at 1192 (by decide +kernel), wG_at 79 (by decide +kernel), by decide +kernel, by decide +kernel⟩, wG_at 1191 (by decide +kernel)⟩
theorem vL_143 : cwOK RL iL_addPlace 143 yL_addPlace 2 ∧ Cond.static yL_addPlace ∈ wG := ⟨⟨wG_at 318 (by decide +kernel), wG_at 320 (by decide +kernel), wG_at 69 (by decide +kernel), by decide +kernel, by decide +kernel⟩, wG_at 319 (by decide +kernel)⟩
theorem vL_148 : cwOK RL iX9_addPlace 148 yX9_addPlace 0 ∧ Cond.instanceMethod yX9_addPlace ∈ wG ∧ Cond.selects (cR 9) yX9_addPlace yX9_addPlace ∈ wG := ⟨⟨wG_at 1311 (by decide +kernel), wG_at 1314 (by decide +kernel), wG_at 79 (by decide +kernel), by decide +kernel, by decide +kernel⟩, wG_at 1312 (by decide +kernel), wG_at 1313 (by decide +kernel)⟩
theorem vL_149 : cwOK RL iX9_thrown 149 yX9_thrown 0 ∧ Cond.instanceMethod yX9_thrown ∈ wG ∧ Cond.selects (cR 9) yX9_thrown yX9_thrown ∈ wG := ⟨⟨wG_at 1307 (by decide +kernel), wG_at 1310 (by decide +kernel), wG_at 79 (by decide +kernel), by decide +kernel, by decide +kernel⟩, wG_at 1308 (by decide +kernel), wG_at 1309 (by decide +kernel)⟩
theorem vL_152 : cwOK RL iL_addStreet 152 yL_addStreet 6 ∧ Cond.static yL_addStreet ∈ wG := ⟨⟨wG_at 398 (by decide +kernel), wG_at 400 (by decide +kernel), wG_at 69 (by decide +kernel), by decide +kernel, by decide +kernel⟩, wG_at 399 (by decide +kernel)⟩
theorem vL_155 : cwOK RL iX9_addStreet 155 yX9_addStreet 4 ∧ Cond.instanceMethod yX9_addStreet ∈ wG ∧ Cond.selects (cR 9) yX9_addStreet yX9_addStreet ∈ wG := ⟨⟨wG_at 1319 (by decide +kernel), wG_at 1322 (by decide +kernel), wG_at 79 (by decide +kernel), by decide +kernel, by decide +kernel⟩, wG_at 1320 (by decide +kernel), wG_at 1321 (by decide +kernel)⟩
theorem vL_156 : cwOK RL iL_addHouse 156 yL_addHouse 5 ∧ Cond.static yL_addHouse ∈ wG := ⟨⟨wG_at 600 (by decide +kernel), wG_at 602 (by decide +kernel), wG_at 69 (by decide +kernel), by decide +kernel, by decide +kernel⟩, wG_at 601 (by decide +kernel)⟩
theorem vL_159 : cwOK RL iX9_addHouse 159 yX9_addHouse 3 ∧ Cond.instanceMethod yX9_addHouse ∈ wG ∧ Cond.selects (cR 9) yX9_addHouse yX9_addHouse ∈ wG := ⟨⟨wG_at 1330 (by decide +kernel), wG_at 1333 (by decide +kernel), wG_at 79 (by decide +kernel), by decide +kernel, by decide +kernel⟩, wG_at 1331 (by decide +kernel), wG_at 1332 (by decide +kernel)⟩
theorem vL_160 : cwOK RL iL_addRound 160 yL_addRound 3 ∧ Cond.static yL_addRound ∈ wG := ⟨⟨wG_at 642 (by decide +kernel), wG_at 644 (by decide +kernel), wG_at 69 (by decide +kernel), by decide +kernel, by decide +kernel⟩, wG_at 643 (by decide +kernel)⟩
theorem vL_163 : cwOK RL iX9_addRound 163 yX9_addRound 1 ∧ Cond.instanceMethod yX9_addRound ∈ wG ∧ Cond.selects (cR 9) yX9_addRound yX9_addRound ∈ wG := ⟨⟨wG_at 1338 (by decide +kernel), wG_at 1341 (by decide +kernel), wG_at 79 (by decide +kernel), by decide +kernel, by decide +kernel⟩, wG_at 1339 (by decide +kernel), wG_at 1340 (by decide +kernel)⟩
theorem vL_164 : cwOK RL iL_assign 164 yL_assign 4 ∧ Cond.static yL_assign ∈ wG := ⟨⟨wG_at 662 (by decide +kernel), wG_at 664 (by decide +kernel), wG_at 69 (by decide +kernel), by decide +kernel, by decide +kernel⟩, wG_at 663 (by decide +kernel)⟩
theorem vL_167 : cwOK RL iX9_assign 167 yX9_assign 2 ∧ Cond.instanceMethod yX9_assign ∈ wG ∧ Cond.selects (cR 9) yX9_assign yX9_assign ∈ wG := ⟨⟨wG_at 1342 (by decide +kernel), wG_at 1345 (by decide +kernel), wG_at 79 (by decide +kernel), by decide +kernel, by decide +kernel⟩, wG_at 1343 (by decide +kernel), wG_at 1344 (by decide +kernel)⟩
theorem vL_168 : cwOK RL iL_setBag 168 yL_setBag 3 ∧ Cond.static yL_setBag ∈ wG := ⟨⟨wG_at 674 (by decide +kernel), wG_at 676 (by decide +kernel), wG_at 69 (by decide +kernel), by decide +kernel, by decide +kernel⟩, wG_at 675 (by decide +kernel)⟩
theorem vL_170 : cwOK RL iX9_setBag 170 yX9_setBag 1 ∧ Cond.instanceMethod yX9_setBag ∈ wG ∧ Cond.selects (cR 9) yX9_setBag yX9_setBag ∈ wG := ⟨⟨wG_at 1350 (by decide +kernel), wG_at 1353 (by decide +kernel), wG_at 79 (by decide +kernel), by decide +kernel, by decide +kernel⟩, wG_at 1351 (by decide +kernel), wG_at 1352 (by decide +kernel)⟩
theorem vL_171 : cwOK RL iL_letters 171 yL_letters 4 ∧ Cond.static yL_letters ∈ wG := ⟨⟨wG_at 682 (by decide +kernel), wG_at 684 (by decide +kernel), wG_at 69 (by decide +kernel), by decide +kernel, by decide +kernel⟩, wG_at 683 (by decide +kernel)⟩
theorem vL_173 : cwOK RL iX9_letters 173 yX9_letters 2 ∧ Cond.instanceMethod yX9_letters ∈ wG ∧ Cond.selects (cR 9) yX9_letters yX9_letters ∈ wG := ⟨⟨wG_at 1354 (by decide +kernel), wG_at 1357 (by decide +kernel), wG_at 79 (by decide +kernel), by decide +kernel, by decide +kernel⟩, wG_at 1355 (by decide +kernel), wG_at 1356 (by decide +kernel)⟩
theorem vL_174 : cwOK RL iL_parcel 174 yL_parcel 5 ∧ Cond.static yL_parcel ∈ wG := ⟨⟨wG_at 696 (by decide +kernel), wG_at 698 (by decide +kernel), wG_at 69 (by decide +kernel), by decide +kernel, by decide +kernel⟩, wG_at 697 (by decide +kernel)⟩
theorem vL_176 : cwOK RL iX9_parcel 176 yX9_parcel 3 ∧ Cond.instanceMethod yX9_parcel ∈ wG ∧ Cond.selects (cR 9) yX9_parcel yX9_parcel ∈ wG := ⟨⟨wG_at 1362 (by decide +kernel), wG_at 1365 (by decide +kernel), wG_at 79 (by decide +kernel), by decide +kernel, by decide +kernel⟩, wG_at 1363 (by decide +kernel), wG_at 1364 (by decide +kernel)⟩
theorem vL_177 : cwOK RL iX8_newDay 177 yX8_newDay 0 ∧ Cond.instanceMethod yX8_newDay ∈ wG ∧ Cond.selects (cR 8) yX8_newDay yX8_newDay ∈ wG := ⟨⟨wG_at 258 (by decide +kernel), wG_at 261 (by decide +kernel), wG_at 70 (by decide +kernel), by decide +kernel, by decide +kernel⟩, wG_at 259 (by decide +kernel), wG_at 260 (by decide +kernel)⟩
theorem vL_180 : cwOK RL iX9_newDay 180 yX9_newDay 0 ∧ Cond.instanceMethod yX9_newDay ∈ wG ∧ Cond.selects (cR 9) yX9_newDay yX9_newDay ∈ wG := ⟨⟨wG_at 1366 (by decide +kernel), wG_at 1369 (by decide +kernel), wG_at 79 (by decide +kernel), by decide +kernel, by decide +kernel⟩, wG_at 1367 (by decide +kernel), wG_at 1368 (by decide +kernel)⟩
theorem vL_181 : cwOK RL iX8_places 181 yX8_places 0 ∧ Cond.instanceMethod yX8_places ∈ wG ∧ Cond.selects (cR 8) yX8_places yX8_places ∈ wG := ⟨⟨wG_at 294 (by decide +kernel), wG_at 297 (by decide +kernel), wG_at 70 (by decide +kernel), by decide +kernel, by decide +kernel⟩, wG_at 295 (by decide +kernel), wG_at 296 (by decide +kernel)⟩
theorem vL_184 : cwOK RL iX9_places 184 yX9_places 0 ∧ Cond.instanceMethod yX9_places ∈ wG ∧ Cond.selects (cR 9) yX9_places yX9_places ∈ wG := ⟨⟨wG_at 1382 (by decide +kernel), wG_at 1385 (by decide +kernel), wG_at 79 (by decide +kernel), by decide +kernel, by decide +kernel⟩, wG_at 1383 (by decide +kernel), wG_at 1384 (by decide +kernel)⟩
theorem vL_185 : cwOK RL iX8_streets 185 yX8_streets 0 ∧ Cond.instanceMethod yX8_streets ∈ wG ∧ Cond.selects (cR 8) yX8_streets yX8_streets ∈ wG := ⟨⟨wG_at 298 (by decide +kernel), wG_at 301 (by decide +kernel), wG_at 70 (by decide +kernel), by decide +kernel, by decide +kernel⟩, wG_at 299 (by decide +kernel), wG_at 300 (by decide +kernel)⟩
theorem vL_188 : cwOK RL iX9_streets 188 yX9_streets 0 ∧ Cond.instanceMethod yX9_streets ∈ wG ∧ Cond.selects (cR 9) yX9_streets yX9_streets ∈ wG := ⟨⟨wG_at 1386 (by decide +kernel), wG_at 1389 (by decide +kernel), wG_at 79 (by decide +kernel), by decide +kernel, by decide +kernel⟩, wG_at 1387 (by decide +kernel), wG_at 1388 (by decide +kernel)⟩
theorem vL_189 : cwOK RL iX8_houses 189 yX8_houses 0 ∧ Cond.instanceMethod yX8_houses ∈ wG ∧ Cond.selects (cR 8) yX8_houses yX8_houses ∈ wG := ⟨⟨wG_at 302 (by decide +kernel), wG_at 305 (by decide +kernel), wG_at 70 (by decide +kernel), by decide +kernel, by decide +kernel⟩, wG_at 303 (by decide +kernel), wG_at 304 (by decide +kernel)⟩
theorem vL_192 : cwOK RL iX9_houses 192 yX9_houses 0 ∧ Cond.instanceMethod yX9_houses ∈ wG ∧ Cond.selects (cR 9) yX9_houses yX9_houses ∈ wG := ⟨⟨wG_at 1390 (by decide +kernel), wG_at 1393 (by decide +kernel), wG_at 79 (by decide +kernel), by decide +kernel, by decide +kernel⟩, wG_at 1391 (by decide +kernel), wG_at 1392 (by decide +kernel)⟩
theorem vL_193 : cwOK RL iL_roundOf 193 yL_roundOf 3 ∧ Cond.static yL_roundOf ∈ wG := ⟨⟨wG_at 726 (by decide +kernel), wG_at 728 (by decide +kernel), wG_at 69 (by decide +kernel), by decide +kernel, by decide +kernel⟩, wG_at 727 (by decide +kernel)⟩
theorem vL_195 : cwOK RL iX9_roundOf 195 yX9_roundOf 1 ∧ Cond.instanceMethod yX9_roundOf ∈ wG ∧ Cond.selects (cR 9) yX9_roundOf yX9_roundOf ∈ wG := ⟨⟨wG_at 1394 (by decide +kernel), wG_at 1397 (by decide +kernel), wG_at 79 (by decide +kernel), by decide +kernel, by decide +kernel⟩, wG_at 1395 (by decide +kernel), wG_at 1396 (by decide +kernel)⟩
theorem vL_196 : cwOK RL iL_houseAt 196 yL_houseAt 5 ∧ Cond.static yL_houseAt ∈ wG := ⟨⟨wG_at 733 (by decide +kernel), wG_at 735 (by decide +kernel), wG_at 69 (by decide +kernel), by decide +kernel, by decide +kernel⟩, wG_at 734 (by decide +kernel)⟩
theorem vL_198 : cwOK RL iX9_houseAt 198 yX9_houseAt 3 ∧ Cond.instanceMethod yX9_houseAt ∈ wG ∧ Cond.selects (cR 9) yX9_houseAt yX9_houseAt ∈ wG := ⟨⟨wG_at 1398 (by decide +kernel), wG_at 1401 (by decide +kernel), wG_at 79 (by decide +kernel), by decide +kernel, by decide +kernel⟩, wG_at 1399 (by decide +kernel), wG_at 1400 (by decide +kernel)⟩
theorem vL_199 : cwOK RL iL_lettersOf 199 yL_lettersOf 3 ∧ Cond.static yL_lettersOf ∈ wG := ⟨⟨wG_at 782 (by decide +kernel), wG_at 784 (by decide +kernel), wG_at 69 (by decide +kernel), by decide +kernel, by decide +kernel⟩, wG_at 783 (by decide +kernel)⟩
theorem vL_201 : cwOK RL iX9_lettersOf 201 yX9_lettersOf 1 ∧ Cond.instanceMethod yX9_lettersOf ∈ wG ∧ Cond.selects (cR 9) yX9_lettersOf yX9_lettersOf ∈ wG := ⟨⟨wG_at 1402 (by decide +kernel), wG_at 1405 (by decide +kernel), wG_at 79 (by decide +kernel), by decide +kernel, by decide +kernel⟩, wG_at 1403 (by decide +kernel), wG_at 1404 (by decide +kernel)⟩
theorem vL_202 : cwOK RL iL_isDue 202 yL_isDue 3 ∧ Cond.static yL_isDue ∈ wG := ⟨⟨wG_at 789 (by decide +kernel), wG_at 791 (by decide +kernel), wG_at 69 (by decide +kernel), by decide +kernel, by decide +kernel⟩, wG_at 790 (by decide +kernel)⟩
theorem vL_204 : cwOK RL iX9_isDue 204 yX9_isDue 1 ∧ Cond.instanceMethod yX9_isDue ∈ wG ∧ Cond.selects (cR 9) yX9_isDue yX9_isDue ∈ wG := ⟨⟨wG_at 1406 (by decide +kernel), wG_at 1409 (by decide +kernel), wG_at 79 (by decide +kernel), by decide +kernel, by decide +kernel⟩, wG_at 1407 (by decide +kernel), wG_at 1408 (by decide +kernel)⟩
theorem vL_205 : cwOK RL iL_due 205 yL_due 3 ∧ Cond.static yL_due ∈ wG := ⟨⟨wG_at 796 (by decide +kernel), wG_at 798 (by decide +kernel), wG_at 69 (by decide +kernel), by decide +kernel, by decide +kernel⟩, wG_at 797 (by decide +kernel)⟩
theorem vL_207 : cwOK RL iX9_due 207 yX9_due 1 ∧ Cond.instanceMethod yX9_due ∈ wG ∧ Cond.selects (cR 9) yX9_due yX9_due ∈ wG := ⟨⟨wG_at 1410 (by decide +kernel), wG_at 1413 (by decide +kernel), wG_at 79 (by decide +kernel), by decide +kernel, by decide +kernel⟩, wG_at 1411 (by decide +kernel), wG_at 1412 (by decide +kernel)⟩
theorem vL_208 : cwOK RL iL_distance 208 yL_distance 4 ∧ Cond.static yL_distance ∈ wG := ⟨⟨wG_at 813 (by decide +kernel), wG_at 815 (by decide +kernel), wG_at 69 (by decide +kernel), by decide +kernel, by decide +kernel⟩, wG_at 814 (by decide +kernel)⟩
theorem vL_210 : cwOK RL iX9_distance 210 yX9_distance 2 ∧ Cond.instanceMethod yX9_distance ∈ wG ∧ Cond.selects (cR 9) yX9_distance yX9_distance ∈ wG := ⟨⟨wG_at 1422 (by decide +kernel), wG_at 1425 (by decide +kernel), wG_at 79 (by decide +kernel), by decide +kernel, by decide +kernel⟩, wG_at 1423 (by decide +kernel), wG_at 1424 (by decide +kernel)⟩
theorem vL_211 : cwOK RL iL_distanceByRounds 211 yL_distanceByRounds 4 ∧ Cond.static yL_distanceByRounds ∈ wG := ⟨⟨wG_at 825 (by decide +kernel), wG_at 827 (by decide +kernel), wG_at 69 (by decide +kernel), by decide +kernel, by decide +kernel⟩, wG_at 826 (by decide +kernel)⟩
theorem vL_213 : cwOK RL iX9_distanceByRounds 213 yX9_distanceByRounds 2 ∧ Cond.instanceMethod yX9_distanceByRounds ∈ wG ∧ Cond.selects (cR 9) yX9_distanceByRounds yX9_distanceByRounds ∈ wG := ⟨⟨wG_at 1432 (by decide +kernel), wG_at 1435 (by decide +kernel), wG_at 79 (by decide +kernel), by decide +kernel, by decide +kernel⟩, wG_at 1433 (by decide +kernel), wG_at 1434 (by decide +kernel)⟩
theorem vL_214 : cwOK RL iL_needed 214 yL_needed 3 ∧ Cond.static yL_needed ∈ wG := ⟨⟨wG_at 843 (by decide +kernel), wG_at 845 (by decide +kernel), wG_at 69 (by decide +kernel), by decide +kernel, by decide +kernel⟩, wG_at 844 (by decide +kernel)⟩
theorem vL_216 : cwOK RL iX9_needed 216 yX9_needed 1 ∧ Cond.instanceMethod yX9_needed ∈ wG ∧ Cond.selects (cR 9) yX9_needed yX9_needed ∈ wG := ⟨⟨wG_at 1437 (by decide +kernel), wG_at 1440 (by decide +kernel), wG_at 79 (by decide +kernel), by decide +kernel, by decide +kernel⟩, wG_at 1438 (by decide +kernel), wG_at 1439 (by decide +kernel)⟩
theorem vL_217 : cwOK RL iL_hasWalk 217 yL_hasWalk 3 ∧ Cond.static yL_hasWalk ∈ wG := ⟨⟨wG_at 872 (by decide +kernel), wG_at 874 (by decide +kernel), wG_at 69 (by decide +kernel), by decide +kernel, by decide +kernel⟩, wG_at 873 (by decide +kernel)⟩
theorem vL_219 : cwOK RL iX9_hasWalk 219 yX9_hasWalk 1 ∧ Cond.instanceMethod yX9_hasWalk ∈ wG ∧ Cond.selects (cR 9) yX9_hasWalk yX9_hasWalk ∈ wG := ⟨⟨wG_at 1453 (by decide +kernel), wG_at 1456 (by decide +kernel), wG_at 79 (by decide +kernel), by decide +kernel, by decide +kernel⟩, wG_at 1454 (by decide +kernel), wG_at 1455 (by decide +kernel)⟩
theorem vL_220 : cwOK RL iL_walkLength 220 yL_walkLength 3 ∧ Cond.static yL_walkLength ∈ wG := ⟨⟨wG_at 888 (by decide +kernel), wG_at 890 (by decide +kernel), wG_at 69 (by decide +kernel), by decide +kernel, by decide +kernel⟩, wG_at 889 (by decide +kernel)⟩
theorem vL_222 : cwOK RL iX9_walkLength 222 yX9_walkLength 1 ∧ Cond.instanceMethod yX9_walkLength ∈ wG ∧ Cond.selects (cR 9) yX9_walkLength yX9_walkLength ∈ wG := ⟨⟨wG_at 1481 (by decide +kernel), wG_at 1484 (by decide +kernel), wG_at 79 (by decide +kernel), by decide +kernel, by decide +kernel⟩, wG_at 1482 (by decide +kernel), wG_at 1483 (by decide +kernel)⟩
theorem vL_223 : cwOK RL iL_lengthByTrying 223 yL_lengthByTrying 3 ∧ Cond.static yL_lengthByTrying ∈ wG := ⟨⟨wG_at 921 (by decide +kernel), wG_at 923 (by decide +kernel), wG_at 69 (by decide +kernel), by decide +kernel, by decide +kernel⟩, wG_at 922 (by decide +kernel)⟩
theorem vL_225 : cwOK RL iX9_lengthByTrying 225 yX9_lengthByTrying 1 ∧ Cond.instanceMethod yX9_lengthByTrying ∈ wG ∧ Cond.selects (cR 9) yX9_lengthByTrying yX9_lengthByTrying ∈ wG := ⟨⟨wG_at 1489 (by decide +kernel), wG_at 1492 (by decide +kernel), wG_at 79 (by decide +kernel), by decide +kernel, by decide +kernel⟩, wG_at 1490 (by decide +kernel), wG_at 1491 (by decide +kernel)⟩
theorem vL_226 : cwOK RL iL_passAt 226 yL_passAt 4 ∧ Cond.static yL_passAt ∈ wG := ⟨⟨wG_at 953 (by decide +kernel), wG_at 955 (by decide +kernel), wG_at 69 (by decide +kernel), by decide +kernel, by decide +kernel⟩, wG_at 954 (by decide +kernel)⟩
theorem vL_228 : cwOK RL iX9_passAt 228 yX9_passAt 2 ∧ Cond.instanceMethod yX9_passAt ∈ wG ∧ Cond.selects (cR 9) yX9_passAt yX9_passAt ∈ wG := ⟨⟨wG_at 1493 (by decide +kernel), wG_at 1496 (by decide +kernel), wG_at 79 (by decide +kernel), by decide +kernel, by decide +kernel⟩, wG_at 1494 (by decide +kernel), wG_at 1495 (by decide +kernel)⟩
theorem vL_229 : cwOK RL iL_walkPlaces 229 yL_walkPlaces 3 ∧ Cond.static yL_walkPlaces ∈ wG := ⟨⟨wG_at 983 (by decide +kernel), wG_at 985 (by decide +kernel), wG_at 69 (by decide +kernel), by decide +kernel, by decide +kernel⟩, wG_at 984 (by decide +kernel)⟩
theorem vL_231 : cwOK RL iX9_walkPlaces 231 yX9_walkPlaces 1 ∧ Cond.instanceMethod yX9_walkPlaces ∈ wG ∧ Cond.selects (cR 9) yX9_walkPlaces yX9_walkPlaces ∈ wG := ⟨⟨wG_at 1497 (by decide +kernel), wG_at 1500 (by decide +kernel), wG_at 79 (by decide +kernel), by decide +kernel, by decide +kernel⟩, wG_at 1498 (by decide +kernel), wG_at 1499 (by decide +kernel)⟩
theorem vL_232 : cwOK RL iL_walkAt 232 yL_walkAt 4 ∧ Cond.static yL_walkAt ∈ wG := ⟨⟨wG_at 990 (by decide +kernel), wG_at 992 (by decide +kernel), wG_at 69 (by decide +kernel), by decide +kernel, by decide +kernel⟩, wG_at 991 (by decide +kernel)⟩
theorem vL_234 : cwOK RL iX9_walkAt 234 yX9_walkAt 2 ∧ Cond.instanceMethod yX9_walkAt ∈ wG ∧ Cond.selects (cR 9) yX9_walkAt yX9_walkAt ∈ wG := ⟨⟨wG_at 1517 (by decide +kernel), wG_at 1520 (by decide +kernel), wG_at 79 (by decide +kernel), by decide +kernel, by decide +kernel⟩, wG_at 1518 (by decide +kernel), wG_at 1519 (by decide +kernel)⟩
theorem vL_235 : cwOK RL iL_walkTime 235 yL_walkTime 3 ∧ Cond.static yL_walkTime ∈ wG := ⟨⟨wG_at 997 (by decide +kernel), wG_at 999 (by decide +kernel), wG_at 69 (by decide +kernel), by decide +kernel, by decide +kernel⟩, wG_at 998 (by decide +kernel)⟩
theorem vL_237 : cwOK RL iX9_walkTime 237 yX9_walkTime 1 ∧ Cond.instanceMethod yX9_walkTime ∈ wG ∧ Cond.selects (cR 9) yX9_walkTime yX9_walkTime ∈ wG := ⟨⟨wG_at 1521 (by decide +kernel), wG_at 1524 (by decide +kernel), wG_at 79 (by decide +kernel), by decide +kernel, by decide +kernel⟩, wG_at 1522 (by decide +kernel), wG_at 1523 (by decide +kernel)⟩
theorem vL_238 : cwOK RL iL_isInTime 238 yL_isInTime 3 ∧ Cond.static yL_isInTime ∈ wG := ⟨⟨wG_at 1012 (by decide +kernel), wG_at 1014 (by decide +kernel), wG_at 69 (by decide +kernel), by decide +kernel, by decide +kernel⟩, wG_at 1013 (by decide +kernel)⟩
theorem vL_240 : cwOK RL iX9_isInTime 240 yX9_isInTime 1 ∧ Cond.instanceMethod yX9_isInTime ∈ wG ∧ Cond.selects (cR 9) yX9_isInTime yX9_isInTime ∈ wG := ⟨⟨wG_at 1529 (by decide +kernel), wG_at 1532 (by decide +kernel), wG_at 79 (by decide +kernel), by decide +kernel, by decide +kernel⟩, wG_at 1530 (by decide +kernel), wG_at 1531 (by decide +kernel)⟩
theorem vL_241 : cwOK RL iL_walkTo 241 yL_walkTo 3 ∧ Cond.static yL_walkTo ∈ wG := ⟨⟨wG_at 1027 (by decide +kernel), wG_at 1029 (by decide +kernel), wG_at 69 (by decide +kernel), by decide +kernel, by decide +kernel⟩, wG_at 1028 (by decide +kernel)⟩
theorem vL_243 : cwOK RL iX9_walkTo 243 yX9_walkTo 1 ∧ Cond.instanceMethod yX9_walkTo ∈ wG ∧ Cond.selects (cR 9) yX9_walkTo yX9_walkTo ∈ wG := ⟨⟨wG_at 1533 (by decide +kernel), wG_at 1536 (by decide +kernel), wG_at 79 (by decide +kernel), by decide +kernel, by decide +kernel⟩, wG_at 1534 (by decide +kernel), wG_at 1535 (by decide +kernel)⟩
theorem vL_244 : cwOK RL iL_deliver 244 yL_deliver 3 ∧ Cond.static yL_deliver ∈ wG := ⟨⟨wG_at 1051 (by decide +kernel), wG_at 1053 (by decide +kernel), wG_at 69 (by decide +kernel), by decide +kernel, by decide +kernel⟩, wG_at 1052 (by decide +kernel)⟩
theorem vL_246 : cwOK RL iX9_deliver 246 yX9_deliver 1 ∧ Cond.instanceMethod yX9_deliver ∈ wG ∧ Cond.selects (cR 9) yX9_deliver yX9_deliver ∈ wG := ⟨⟨wG_at 1541 (by decide +kernel), wG_at 1544 (by decide +kernel), wG_at 79 (by decide +kernel), by decide +kernel, by decide +kernel⟩, wG_at 1542 (by decide +kernel), wG_at 1543 (by decide +kernel)⟩
theorem vL_247 : cwOK RL iL_saving 247 yL_saving 4 ∧ Cond.static yL_saving ∈ wG := ⟨⟨wG_at 1063 (by decide +kernel), wG_at 1065 (by decide +kernel), wG_at 69 (by decide +kernel), by decide +kernel, by decide +kernel⟩, wG_at 1064 (by decide +kernel)⟩
theorem vL_249 : cwOK RL iX9_saving 249 yX9_saving 2 ∧ Cond.instanceMethod yX9_saving ∈ wG ∧ Cond.selects (cR 9) yX9_saving yX9_saving ∈ wG := ⟨⟨wG_at 1545 (by decide +kernel), wG_at 1548 (by decide +kernel), wG_at 79 (by decide +kernel), by decide +kernel, by decide +kernel⟩, wG_at 1546 (by decide +kernel), wG_at 1547 (by decide +kernel)⟩
theorem vL_250 : cwOK RL iL_mergeInto 250 yL_mergeInto 4 ∧ Cond.static yL_mergeInto ∈ wG := ⟨⟨wG_at 1076 (by decide +kernel), wG_at 1078 (by decide +kernel), wG_at 69 (by decide +kernel), by decide +kernel, by decide +kernel⟩, wG_at 1077 (by decide +kernel)⟩
theorem vL_252 : cwOK RL iX9_mergeInto 252 yX9_mergeInto 2 ∧ Cond.instanceMethod yX9_mergeInto ∈ wG ∧ Cond.selects (cR 9) yX9_mergeInto yX9_mergeInto ∈ wG := ⟨⟨wG_at 1553 (by decide +kernel), wG_at 1556 (by decide +kernel), wG_at 79 (by decide +kernel), by decide +kernel, by decide +kernel⟩, wG_at 1554 (by decide +kernel), wG_at 1555 (by decide +kernel)⟩
theorem vL_253 : cwOK RL iL_bestMerge 253 yL_bestMerge 2 ∧ Cond.static yL_bestMerge ∈ wG := ⟨⟨wG_at 1084 (by decide +kernel), wG_at 1086 (by decide +kernel), wG_at 69 (by decide +kernel), by decide +kernel, by decide +kernel⟩, wG_at 1085 (by decide +kernel)⟩
theorem vL_255 : cwOK RL iX9_bestMerge 255 yX9_bestMerge 0 ∧ Cond.instanceMethod yX9_bestMerge ∈ wG ∧ Cond.selects (cR 9) yX9_bestMerge yX9_bestMerge ∈ wG := ⟨⟨wG_at 1558 (by decide +kernel), wG_at 1561 (by decide +kernel), wG_at 79 (by decide +kernel), by decide +kernel, by decide +kernel⟩, wG_at 1559 (by decide +kernel), wG_at 1560 (by decide +kernel)⟩
theorem vL_256 : cwOK RL iL_parcelState 256 yL_parcelState 3 ∧ Cond.static yL_parcelState ∈ wG := ⟨⟨wG_at 1101 (by decide +kernel), wG_at 1103 (by decide +kernel), wG_at 69 (by decide +kernel), by decide +kernel, by decide +kernel⟩, wG_at 1102 (by decide +kernel)⟩
theorem vL_258 : cwOK RL iX9_parcelState 258 yX9_parcelState 1 ∧ Cond.instanceMethod yX9_parcelState ∈ wG ∧ Cond.selects (cR 9) yX9_parcelState yX9_parcelState ∈ wG := ⟨⟨wG_at 1562 (by decide +kernel), wG_at 1565 (by decide +kernel), wG_at 79 (by decide +kernel), by decide +kernel, by decide +kernel⟩, wG_at 1563 (by decide +kernel), wG_at 1564 (by decide +kernel)⟩
theorem vL_259 : cwOK RL iL_isHeavy 259 yL_isHeavy 3 ∧ Cond.static yL_isHeavy ∈ wG := ⟨⟨wG_at 1113 (by decide +kernel), wG_at 1115 (by decide +kernel), wG_at 69 (by decide +kernel), by decide +kernel, by decide +kernel⟩, wG_at 1114 (by decide +kernel)⟩
theorem vL_261 : cwOK RL iX9_isHeavy 261 yX9_isHeavy 1 ∧ Cond.instanceMethod yX9_isHeavy ∈ wG ∧ Cond.selects (cR 9) yX9_isHeavy yX9_isHeavy ∈ wG := ⟨⟨wG_at 1570 (by decide +kernel), wG_at 1573 (by decide +kernel), wG_at 79 (by decide +kernel), by decide +kernel, by decide +kernel⟩, wG_at 1571 (by decide +kernel), wG_at 1572 (by decide +kernel)⟩
theorem vL_262 : cwOK RL iL_nextParcel 262 yL_nextParcel 2 ∧ Cond.static yL_nextParcel ∈ wG := ⟨⟨wG_at 1120 (by decide +kernel), wG_at 1122 (by decide +kernel), wG_at 69 (by decide +kernel), by decide +kernel, by decide +kernel⟩, wG_at 1121 (by decide +kernel)⟩
theorem vL_264 : cwOK RL iX9_nextParcel 264 yX9_nextParcel 0 ∧ Cond.instanceMethod yX9_nextParcel ∈ wG ∧ Cond.selects (cR 9) yX9_nextParcel yX9_nextParcel ∈ wG := ⟨⟨wG_at 1574 (by decide +kernel), wG_at 1577 (by decide +kernel), wG_at 79 (by decide +kernel), by decide +kernel, by decide +kernel⟩, wG_at 1575 (by decide +kernel), wG_at 1576 (by decide +kernel)⟩
theorem vL_265 : cwOK RL iL_tripOf 265 yL_tripOf 3 ∧ Cond.static yL_tripOf ∈ wG := ⟨⟨wG_at 1136 (by decide +kernel), wG_at 1138 (by decide +kernel), wG_at 69 (by decide +kernel), by decide +kernel, by decide +kernel⟩, wG_at 1137 (by decide +kernel)⟩
theorem vL_267 : cwOK RL iX9_tripOf 267 yX9_tripOf 1 ∧ Cond.instanceMethod yX9_tripOf ∈ wG ∧ Cond.selects (cR 9) yX9_tripOf yX9_tripOf ∈ wG := ⟨⟨wG_at 1590 (by decide +kernel), wG_at 1593 (by decide +kernel), wG_at 79 (by decide +kernel), by decide +kernel, by decide +kernel⟩, wG_at 1591 (by decide +kernel), wG_at 1592 (by decide +kernel)⟩
theorem vL_268 : cwOK RL iL_dispatch 268 yL_dispatch 2 ∧ Cond.static yL_dispatch ∈ wG := ⟨⟨wG_at 1148 (by decide +kernel), wG_at 1150 (by decide +kernel), wG_at 69 (by decide +kernel), by decide +kernel, by decide +kernel⟩, wG_at 1149 (by decide +kernel)⟩
theorem vL_270 : cwOK RL iX9_dispatch 270 yX9_dispatch 0 ∧ Cond.instanceMethod yX9_dispatch ∈ wG ∧ Cond.selects (cR 9) yX9_dispatch yX9_dispatch ∈ wG := ⟨⟨wG_at 1598 (by decide +kernel), wG_at 1601 (by decide +kernel), wG_at 79 (by decide +kernel), by decide +kernel, by decide +kernel⟩, wG_at 1599 (by decide +kernel), wG_at 1600 (by decide +kernel)⟩
theorem vL_271 : cwOK RL iX8_vanClock 271 yX8_vanClock 0 ∧ Cond.instanceMethod yX8_vanClock ∈ wG ∧ Cond.selects (cR 8) yX8_vanClock yX8_vanClock ∈ wG := ⟨⟨wG_at 306 (by decide +kernel), wG_at 309 (by decide +kernel), wG_at 70 (by decide +kernel), by decide +kernel, by decide +kernel⟩, wG_at 307 (by decide +kernel), wG_at 308 (by decide +kernel)⟩
theorem vL_274 : cwOK RL iX9_vanClock 274 yX9_vanClock 0 ∧ Cond.instanceMethod yX9_vanClock ∈ wG ∧ Cond.selects (cR 9) yX9_vanClock yX9_vanClock ∈ wG := ⟨⟨wG_at 1602 (by decide +kernel), wG_at 1605 (by decide +kernel), wG_at 79 (by decide +kernel), by decide +kernel, by decide +kernel⟩, wG_at 1603 (by decide +kernel), wG_at 1604 (by decide +kernel)⟩
theorem vL_275 : cwOK RL iX8_late 275 yX8_late 0 ∧ Cond.instanceMethod yX8_late ∈ wG ∧ Cond.selects (cR 8) yX8_late yX8_late ∈ wG := ⟨⟨wG_at 310 (by decide +kernel), wG_at 313 (by decide +kernel), wG_at 70 (by decide +kernel), by decide +kernel, by decide +kernel⟩, wG_at 311 (by decide +kernel), wG_at 312 (by decide +kernel)⟩
theorem vL_278 : cwOK RL iX9_late 278 yX9_late 0 ∧ Cond.instanceMethod yX9_late ∈ wG ∧ Cond.selects (cR 9) yX9_late yX9_late ∈ wG := ⟨⟨wG_at 1606 (by decide +kernel), wG_at 1609 (by decide +kernel), wG_at 79 (by decide +kernel), by decide +kernel, by decide +kernel⟩, wG_at 1607 (by decide +kernel), wG_at 1608 (by decide +kernel)⟩
theorem vL_279 : cwOK RL iX8_walked 279 yX8_walked 0 ∧ Cond.instanceMethod yX8_walked ∈ wG ∧ Cond.selects (cR 8) yX8_walked yX8_walked ∈ wG := ⟨⟨wG_at 314 (by decide +kernel), wG_at 317 (by decide +kernel), wG_at 70 (by decide +kernel), by decide +kernel, by decide +kernel⟩, wG_at 315 (by decide +kernel), wG_at 316 (by decide +kernel)⟩
theorem vL_283 : cwOK RL iX9_walked 283 yX9_walked 0 ∧ Cond.instanceMethod yX9_walked ∈ wG ∧ Cond.selects (cR 9) yX9_walked yX9_walked ∈ wG := ⟨⟨wG_at 1610 (by decide +kernel), wG_at 1613 (by decide +kernel), wG_at 79 (by decide +kernel), by decide +kernel, by decide +kernel⟩, wG_at 1611 (by decide +kernel), wG_at 1612 (by decide +kernel)⟩
theorem vL_284 : cwOK RL iL_lateShare 284 yL_lateShare 2 ∧ Cond.static yL_lateShare ∈ wG := ⟨⟨wG_at 1156 (by decide +kernel), wG_at 1158 (by decide +kernel), wG_at 69 (by decide +kernel), by decide +kernel, by decide +kernel⟩, wG_at 1157 (by decide +kernel)⟩
theorem vL_287 : cwOK RL iX9_lateShare 287 yX9_lateShare 0 ∧ Cond.instanceMethod yX9_lateShare ∈ wG ∧ Cond.selects (cR 9) yX9_lateShare yX9_lateShare ∈ wG := ⟨⟨wG_at 1614 (by decide +kernel), wG_at 1617 (by decide +kernel), wG_at 79 (by decide +kernel), by decide +kernel, by decide +kernel⟩, wG_at 1615 (by decide +kernel), wG_at 1616 (by decide +kernel)⟩
theorem vL_288 : cwOK RL iL_meanLetters 288 yL_meanLetters 2 ∧ Cond.static yL_meanLetters ∈ wG := ⟨⟨wG_at 1180 (by decide +kernel), wG_at 1182 (by decide +kernel), wG_at 69 (by decide +kernel), by decide +kernel, by decide +kernel⟩, wG_at 1181 (by decide +kernel)⟩
theorem vL_290 : cwOK RL iX9_meanLetters 290 yX9_meanLetters 0 ∧ Cond.instanceMethod yX9_meanLetters ∈ wG ∧ Cond.selects (cR 9) yX9_meanLetters yX9_meanLetters ∈ wG := ⟨⟨wG_at 1618 (by decide +kernel), wG_at 1621 (by decide +kernel), wG_at 79 (by decide +kernel), by decide +kernel, by decide +kernel⟩, wG_at 1619 (by decide +kernel), wG_at 1620 (by decide +kernel)⟩
theorem vX9_1 : Cond.methodLink RX9 1 Lib.objectInit ∈ wG ∧ Cond.instanceMethod Lib.objectInit ∈ wG ∧ Cond.code Lib.objectInit ⟨#[0xb1]⟩ 1 none ∈ wG := ⟨wG_at 1193 (by decide +kernel), wG_at 106 (by decide +kernel), wG_at 107 (by decide +kernel)⟩
theorem vX9_87 : cwOK RX9 iX9_isBetween 87 yX9_isBetween 3 ∧ Cond.static yX9_isBetween ∈ wG := ⟨⟨wG_at 1327 (by decide +kernel), wG_at 1329 (by decide +kernel), wG_at 79 (by decide +kernel), by decide +kernel, by decide +kernel⟩, wG_at 1328 (by decide +kernel)⟩
theorem vX9_100 : cwOK RX9 iX9_fails 100 yX9_fails 1 ∧ Cond.instanceMethod yX9_fails ∈ wG ∧ Cond.selects (cR 9) yX9_fails yX9_fails ∈ wG := ⟨⟨wG_at 1315 (by decide +kernel), wG_at 1318 (by decide +kernel), wG_at 79 (by decide +kernel), by decide +kernel, by decide +kernel⟩, wG_at 1317 (by decide +kernel), wG_at 36 (by decide +kernel)⟩
theorem vX9_104 : cwOK RX9 iX9_isPlace 104 yX9_isPlace 1 ∧ Cond.instanceMethod yX9_isPlace ∈ wG ∧ Cond.selects (cR 9) yX9_isPlace yX9_isPlace ∈ wG := ⟨⟨wG_at 1323 (by decide +kernel), wG_at 1326 (by decide +kernel), wG_at 79 (by decide +kernel), by decide +kernel, by decide +kernel⟩, wG_at 1325 (by decide +kernel), wG_at 37 (by decide +kernel)⟩
theorem vX9_108 : cwOK RX9 iX9_isStreet 108 yX9_isStreet 1 ∧ Cond.instanceMethod yX9_isStreet ∈ wG ∧ Cond.selects (cR 9) yX9_isStreet yX9_isStreet ∈ wG := ⟨⟨wG_at 1334 (by decide +kernel), wG_at 1337 (by decide +kernel), wG_at 79 (by decide +kernel), by decide +kernel, by decide +kernel⟩, wG_at 1336 (by decide +kernel), wG_at 38 (by decide +kernel)⟩
theorem vX9_111 : cwOK RX9 iX9_isRound 111 yX9_isRound 1 ∧ Cond.instanceMethod yX9_isRound ∈ wG ∧ Cond.selects (cR 9) yX9_isRound yX9_isRound ∈ wG := ⟨⟨wG_at 1346 (by decide +kernel), wG_at 1349 (by decide +kernel), wG_at 79 (by decide +kernel), by decide +kernel, by decide +kernel⟩, wG_at 1348 (by decide +kernel), wG_at 39 (by decide +kernel)⟩
theorem vX9_114 : cwOK RX9 iX9_isHouse 114 yX9_isHouse 1 ∧ Cond.instanceMethod yX9_isHouse ∈ wG ∧ Cond.selects (cR 9) yX9_isHouse yX9_isHouse ∈ wG := ⟨⟨wG_at 1358 (by decide +kernel), wG_at 1361 (by decide +kernel), wG_at 79 (by decide +kernel), by decide +kernel, by decide +kernel⟩, wG_at 1360 (by decide +kernel), wG_at 40 (by decide +kernel)⟩
theorem vX9_117 : cwOK RX9 iX9_isLight 117 yX9_isLight 1 ∧ Cond.instanceMethod yX9_isLight ∈ wG ∧ Cond.selects (cR 9) yX9_isLight yX9_isLight ∈ wG := ⟨⟨wG_at 1378 (by decide +kernel), wG_at 1381 (by decide +kernel), wG_at 79 (by decide +kernel), by decide +kernel, by decide +kernel⟩, wG_at 1380 (by decide +kernel), wG_at 43 (by decide +kernel)⟩
theorem vX9_120 : cwOK RX9 iX9_lights 120 yX9_lights 1 ∧ Cond.instanceMethod yX9_lights ∈ wG ∧ Cond.selects (cR 9) yX9_lights yX9_lights ∈ wG := ⟨⟨wG_at 1374 (by decide +kernel), wG_at 1377 (by decide +kernel), wG_at 79 (by decide +kernel), by decide +kernel, by decide +kernel⟩, wG_at 1376 (by decide +kernel), wG_at 42 (by decide +kernel)⟩
theorem vX9_123 : cwOK RX9 iX9_isDueNow 123 yX9_isDueNow 1 ∧ Cond.instanceMethod yX9_isDueNow ∈ wG ∧ Cond.selects (cR 9) yX9_isDueNow yX9_isDueNow ∈ wG := ⟨⟨wG_at 1370 (by decide +kernel), wG_at 1373 (by decide +kernel), wG_at 79 (by decide +kernel), by decide +kernel, by decide +kernel⟩, wG_at 1372 (by decide +kernel), wG_at 41 (by decide +kernel)⟩
theorem vX9_129 : cwOK RX9 iX9_isAt 129 yX9_isAt 2 ∧ Cond.instanceMethod yX9_isAt ∈ wG ∧ Cond.selects (cR 9) yX9_isAt yX9_isAt ∈ wG := ⟨⟨wG_at 1418 (by decide +kernel), wG_at 1421 (by decide +kernel), wG_at 79 (by decide +kernel), by decide +kernel, by decide +kernel⟩, wG_at 1420 (by decide +kernel), wG_at 45 (by decide +kernel)⟩
theorem vX9_133 : cwOK RX9 iX9_dueAt 133 yX9_dueAt 1 ∧ Cond.instanceMethod yX9_dueAt ∈ wG ∧ Cond.selects (cR 9) yX9_dueAt yX9_dueAt ∈ wG := ⟨⟨wG_at 1414 (by decide +kernel), wG_at 1417 (by decide +kernel), wG_at 79 (by decide +kernel), by decide +kernel, by decide +kernel⟩, wG_at 1416 (by decide +kernel), wG_at 44 (by decide +kernel)⟩
theorem vX9_137 : cwOK RX9 iJ9_min_7cf53 137 yJ9_min_7cf53 2 ∧ Cond.static yJ9_min_7cf53 ∈ wG := ⟨⟨wG_at 1431 (by decide +kernel), wG_at 576 (by decide +kernel), wG_at 76 (by decide +kernel), by decide +kernel, by decide +kernel⟩, wG_at 575 (by decide +kernel)⟩
theorem vX9_143 : cwOK RX9 iX9_measures 143 yX9_measures 0 ∧ Cond.instanceMethod yX9_measures ∈ wG ∧ Cond.selects (cR 9) yX9_measures yX9_measures ∈ wG := ⟨⟨wG_at 1426 (by decide +kernel), wG_at 1429 (by decide +kernel), wG_at 79 (by decide +kernel), by decide +kernel, by decide +kernel⟩, wG_at 1428 (by decide +kernel), wG_at 46 (by decide +kernel)⟩
theorem vX9_146 : cwOK RX9 iX9_distance 146 yX9_distance 2 ∧ Cond.instanceMethod yX9_distance ∈ wG ∧ Cond.selects (cR 9) yX9_distance yX9_distance ∈ wG := ⟨⟨wG_at 1436 (by decide +kernel), wG_at 1425 (by decide +kernel), wG_at 79 (by decide +kernel), by decide +kernel, by decide +kernel⟩, wG_at 1423 (by decide +kernel), wG_at 1424 (by decide +kernel)⟩
theorem vX9_152 : cwOK RX9 iX9_isSideDue 152 yX9_isSideDue 2 ∧ Cond.instanceMethod yX9_isSideDue ∈ wG ∧ Cond.selects (cR 9) yX9_isSideDue yX9_isSideDue ∈ wG := ⟨⟨wG_at 1445 (by decide +kernel), wG_at 1448 (by decide +kernel), wG_at 79 (by decide +kernel), by decide +kernel, by decide +kernel⟩, wG_at 1447 (by decide +kernel), wG_at 48 (by decide +kernel)⟩
theorem vX9_155 : cwOK RX9 iX9_needs 155 yX9_needs 1 ∧ Cond.instanceMethod yX9_needs ∈ wG ∧ Cond.selects (cR 9) yX9_needs yX9_needs ∈ wG := ⟨⟨wG_at 1449 (by decide +kernel), wG_at 1452 (by decide +kernel), wG_at 79 (by decide +kernel), by decide +kernel, by decide +kernel⟩, wG_at 1451 (by decide +kernel), wG_at 49 (by decide +kernel)⟩
theorem vX9_159 : cwOK RX9 iX9_findsNeeds 159 yX9_findsNeeds 1 ∧ Cond.instanceMethod yX9_findsNeeds ∈ wG ∧ Cond.selects (cR 9) yX9_findsNeeds yX9_findsNeeds ∈ wG := ⟨⟨wG_at 1441 (by decide +kernel), wG_at 1444 (by decide +kernel), wG_at 79 (by decide +kernel), by decide +kernel, by decide +kernel⟩, wG_at 1443 (by decide +kernel), wG_at 47 (by decide +kernel)⟩
theorem vX9_165 : cwOK RX9 iX9_chooses 165 yX9_chooses 2 ∧ Cond.instanceMethod yX9_chooses ∈ wG ∧ Cond.selects (cR 9) yX9_chooses yX9_chooses ∈ wG := ⟨⟨wG_at 1465 (by decide +kernel), wG_at 1468 (by decide +kernel), wG_at 79 (by decide +kernel), by decide +kernel, by decide +kernel⟩, wG_at 1467 (by decide +kernel), wG_at 52 (by decide +kernel)⟩
theorem vX9_172 : cwOK RX9 iX9_from 172 yX9_from 1 ∧ Cond.instanceMethod yX9_from ∈ wG ∧ Cond.selects (cR 9) yX9_from yX9_from ∈ wG := ⟨⟨wG_at 1473 (by decide +kernel), wG_at 1476 (by decide +kernel), wG_at 79 (by decide +kernel), by decide +kernel, by decide +kernel⟩, wG_at 1475 (by decide +kernel), wG_at 54 (by decide +kernel)⟩
theorem vX9_175 : cwOK RX9 iX9_to 175 yX9_to 1 ∧ Cond.instanceMethod yX9_to ∈ wG ∧ Cond.selects (cR 9) yX9_to yX9_to ∈ wG := ⟨⟨wG_at 1477 (by decide +kernel), wG_at 1480 (by decide +kernel), wG_at 79 (by decide +kernel), by decide +kernel, by decide +kernel⟩, wG_at 1479 (by decide +kernel), wG_at 55 (by decide +kernel)⟩
theorem vX9_178 : cwOK RX9 iX9_findsChoices 178 yX9_findsChoices 0 ∧ Cond.instanceMethod yX9_findsChoices ∈ wG ∧ Cond.selects (cR 9) yX9_findsChoices yX9_findsChoices ∈ wG := ⟨⟨wG_at 1461 (by decide +kernel), wG_at 1464 (by decide +kernel), wG_at 79 (by decide +kernel), by decide +kernel, by decide +kernel⟩, wG_at 1463 (by decide +kernel), wG_at 51 (by decide +kernel)⟩
theorem vX9_181 : cwOK RX9 iX9_bestChoice 181 yX9_bestChoice 2 ∧ Cond.instanceMethod yX9_bestChoice ∈ wG ∧ Cond.selects (cR 9) yX9_bestChoice yX9_bestChoice ∈ wG := ⟨⟨wG_at 1469 (by decide +kernel), wG_at 1472 (by decide +kernel), wG_at 79 (by decide +kernel), by decide +kernel, by decide +kernel⟩, wG_at 1471 (by decide +kernel), wG_at 53 (by decide +kernel)⟩
theorem vX9_187 : cwOK RX9 iX9_walks 187 yX9_walks 1 ∧ Cond.instanceMethod yX9_walks ∈ wG ∧ Cond.selects (cR 9) yX9_walks yX9_walks ∈ wG := ⟨⟨wG_at 1457 (by decide +kernel), wG_at 1460 (by decide +kernel), wG_at 79 (by decide +kernel), by decide +kernel, by decide +kernel⟩, wG_at 1459 (by decide +kernel), wG_at 50 (by decide +kernel)⟩
theorem vX9_190 : cwOK RX9 iX9_isWalkless 190 yX9_isWalkless 1 ∧ Cond.instanceMethod yX9_isWalkless ∈ wG ∧ Cond.selects (cR 9) yX9_isWalkless yX9_isWalkless ∈ wG := ⟨⟨wG_at 1485 (by decide +kernel), wG_at 1488 (by decide +kernel), wG_at 79 (by decide +kernel), by decide +kernel, by decide +kernel⟩, wG_at 1487 (by decide +kernel), wG_at 56 (by decide +kernel)⟩
theorem vX9_196 : cwOK RX9 iX9_shortest 196 yX9_shortest 2 ∧ Cond.instanceMethod yX9_shortest ∈ wG ∧ Cond.selects (cR 9) yX9_shortest yX9_shortest ∈ wG := ⟨⟨wG_at 1513 (by decide +kernel), wG_at 1516 (by decide +kernel), wG_at 79 (by decide +kernel), by decide +kernel, by decide +kernel⟩, wG_at 1515 (by decide +kernel), wG_at 60 (by decide +kernel)⟩
theorem vX9_199 : cwOK RX9 iX9_comesTo 199 yX9_comesTo 1 ∧ Cond.instanceMethod yX9_comesTo ∈ wG ∧ Cond.selects (cR 9) yX9_comesTo yX9_comesTo ∈ wG := ⟨⟨wG_at 1505 (by decide +kernel), wG_at 1508 (by decide +kernel), wG_at 79 (by decide +kernel), by decide +kernel, by decide +kernel⟩, wG_at 1507 (by decide +kernel), wG_at 58 (by decide +kernel)⟩
theorem vX9_202 : cwOK RX9 iX9_goes 202 yX9_goes 2 ∧ Cond.instanceMethod yX9_goes ∈ wG ∧ Cond.selects (cR 9) yX9_goes yX9_goes ∈ wG := ⟨⟨wG_at 1509 (by decide +kernel), wG_at 1512 (by decide +kernel), wG_at 79 (by decide +kernel), by decide +kernel, by decide +kernel⟩, wG_at 1511 (by decide +kernel), wG_at 59 (by decide +kernel)⟩
theorem vX9_205 : cwOK RX9 iX9_findsSteps 205 yX9_findsSteps 0 ∧ Cond.instanceMethod yX9_findsSteps ∈ wG ∧ Cond.selects (cR 9) yX9_findsSteps yX9_findsSteps ∈ wG := ⟨⟨wG_at 1501 (by decide +kernel), wG_at 1504 (by decide +kernel), wG_at 79 (by decide +kernel), by decide +kernel, by decide +kernel⟩, wG_at 1503 (by decide +kernel), wG_at 57 (by decide +kernel)⟩
theorem vX9_208 : cwOK RX9 iX9_timeOf 208 yX9_timeOf 1 ∧ Cond.instanceMethod yX9_timeOf ∈ wG ∧ Cond.selects (cR 9) yX9_timeOf yX9_timeOf ∈ wG := ⟨⟨wG_at 1525 (by decide +kernel), wG_at 1528 (by decide +kernel), wG_at 79 (by decide +kernel), by decide +kernel, by decide +kernel⟩, wG_at 1527 (by decide +kernel), wG_at 61 (by decide +kernel)⟩
theorem vX9_211 : cwOK RX9 iX9_passes 211 yX9_passes 2 ∧ Cond.instanceMethod yX9_passes ∈ wG ∧ Cond.selects (cR 9) yX9_passes yX9_passes ∈ wG := ⟨⟨wG_at 1537 (by decide +kernel), wG_at 1540 (by decide +kernel), wG_at 79 (by decide +kernel), by decide +kernel, by decide +kernel⟩, wG_at 1539 (by decide +kernel), wG_at 62 (by decide +kernel)⟩
theorem vX9_218 : cwOK RX9 iX9_savingBy 218 yX9_savingBy 2 ∧ Cond.instanceMethod yX9_savingBy ∈ wG ∧ Cond.selects (cR 9) yX9_savingBy yX9_savingBy ∈ wG := ⟨⟨wG_at 1549 (by decide +kernel), wG_at 1552 (by decide +kernel), wG_at 79 (by decide +kernel), by decide +kernel, by decide +kernel⟩, wG_at 1551 (by decide +kernel), wG_at 63 (by decide +kernel)⟩
theorem vX9_221 : cwOK RX9 iX9_saving 221 yX9_saving 2 ∧ Cond.instanceMethod yX9_saving ∈ wG ∧ Cond.selects (cR 9) yX9_saving yX9_saving ∈ wG := ⟨⟨wG_at 1557 (by decide +kernel), wG_at 1548 (by decide +kernel), wG_at 79 (by decide +kernel), by decide +kernel, by decide +kernel⟩, wG_at 1546 (by decide +kernel), wG_at 1547 (by decide +kernel)⟩
theorem vX9_224 : cwOK RX9 iX9_isParcel 224 yX9_isParcel 1 ∧ Cond.instanceMethod yX9_isParcel ∈ wG ∧ Cond.selects (cR 9) yX9_isParcel yX9_isParcel ∈ wG := ⟨⟨wG_at 1566 (by decide +kernel), wG_at 1569 (by decide +kernel), wG_at 79 (by decide +kernel), by decide +kernel, by decide +kernel⟩, wG_at 1568 (by decide +kernel), wG_at 64 (by decide +kernel)⟩
theorem vX9_227 : cwOK RX9 iX9_farTo 227 yX9_farTo 1 ∧ Cond.instanceMethod yX9_farTo ∈ wG ∧ Cond.selects (cR 9) yX9_farTo yX9_farTo ∈ wG := ⟨⟨wG_at 1586 (by decide +kernel), wG_at 1589 (by decide +kernel), wG_at 79 (by decide +kernel), by decide +kernel, by decide +kernel⟩, wG_at 1588 (by decide +kernel), wG_at 67 (by decide +kernel)⟩
theorem vX9_230 : cwOK RX9 iX9_goesFirst 230 yX9_goesFirst 2 ∧ Cond.instanceMethod yX9_goesFirst ∈ wG ∧ Cond.selects (cR 9) yX9_goesFirst yX9_goesFirst ∈ wG := ⟨⟨wG_at 1582 (by decide +kernel), wG_at 1585 (by decide +kernel), wG_at 79 (by decide +kernel), by decide +kernel, by decide +kernel⟩, wG_at 1584 (by decide +kernel), wG_at 66 (by decide +kernel)⟩
theorem vX9_233 : cwOK RX9 iX9_nextHeavy 233 yX9_nextHeavy 0 ∧ Cond.instanceMethod yX9_nextHeavy ∈ wG ∧ Cond.selects (cR 9) yX9_nextHeavy yX9_nextHeavy ∈ wG := ⟨⟨wG_at 1578 (by decide +kernel), wG_at 1581 (by decide +kernel), wG_at 79 (by decide +kernel), by decide +kernel, by decide +kernel⟩, wG_at 1580 (by decide +kernel), wG_at 65 (by decide +kernel)⟩
theorem vX9_237 : cwOK RX9 iX9_trip 237 yX9_trip 1 ∧ Cond.instanceMethod yX9_trip ∈ wG ∧ Cond.selects (cR 9) yX9_trip yX9_trip ∈ wG := ⟨⟨wG_at 1594 (by decide +kernel), wG_at 1597 (by decide +kernel), wG_at 79 (by decide +kernel), by decide +kernel, by decide +kernel⟩, wG_at 1596 (by decide +kernel), wG_at 68 (by decide +kernel)⟩
theorem vJxa1e45_1 : Cond.methodLink RJxa1e45 1 Lib.objectInit ∈ wG ∧ Cond.instanceMethod Lib.objectInit ∈ wG ∧ Cond.code Lib.objectInit ⟨#[0xb1]⟩ 1 none ∈ wG := ⟨wG_at 119 (by decide +kernel), wG_at 106 (by decide +kernel), wG_at 107 (by decide +kernel)⟩
theorem vJxc12de_1 : cwOK RJxc12de iJxa1e45_init_da8c8 1 yJxa1e45_init_da8c8 0 ∧ Cond.instanceMethod yJxa1e45_init_da8c8 ∈ wG := ⟨⟨wG_at 116 (by decide +kernel), wG_at 118 (by decide +kernel), wG_at 71 (by decide +kernel), by decide +kernel, by decide +kernel⟩, wG_at 117 (by decide +kernel)⟩
theorem vJx4a65c_1 : cwOK RJx4a65c iJxc12de_init_da8c8 1 yJxc12de_init_da8c8 0 ∧ Cond.instanceMethod yJxc12de_init_da8c8 ∈ wG := ⟨⟨wG_at 113 (by decide +kernel), wG_at 115 (by decide +kernel), wG_at 72 (by decide +kernel), by decide +kernel, by decide +kernel⟩, wG_at 114 (by decide +kernel)⟩
theorem vJx4a65c_66 : cwOK RJx4a65c iJ7_copyOf_1904c 66 yJ7_copyOf_1904c 2 ∧ Cond.static yJ7_copyOf_1904c ∈ wG := ⟨⟨wG_at 543 (by decide +kernel), wG_at 545 (by decide +kernel), wG_at 77 (by decide +kernel), by decide +kernel, by decide +kernel⟩, wG_at 544 (by decide +kernel)⟩
theorem vJx4a65c_69 : cwOK RJx4a65c iJx4a65c_grow_92f84 69 yJx4a65c_grow_92f84 1 ∧ Cond.instanceMethod yJx4a65c_grow_92f84 ∈ wG ∧ Cond.selects (cR 10) yJx4a65c_grow_92f84 yJx4a65c_grow_92f84 ∈ wG := ⟨⟨wG_at 531 (by decide +kernel), wG_at 534 (by decide +kernel), wG_at 73 (by decide +kernel), by decide +kernel, by decide +kernel⟩, wG_at 533 (by decide +kernel), wG_at 6 (by decide +kernel)⟩
theorem vJx4a65c_73 : cwOK RJx4a65c iJ8_newLength_cabcc 73 yJ8_newLength_cabcc 3 ∧ Cond.static yJ8_newLength_cabcc ∈ wG := ⟨⟨wG_at 535 (by decide +kernel), wG_at 537 (by decide +kernel), wG_at 88 (by decide +kernel), by decide +kernel, by decide +kernel⟩, wG_at 536 (by decide +kernel)⟩
theorem vJx4a65c_79 : cwOK RJx4a65c iJ9_max_7cf53 79 yJ9_max_7cf53 2 ∧ Cond.static yJ9_max_7cf53 ∈ wG := ⟨⟨wG_at 580 (by decide +kernel), wG_at 148 (by decide +kernel), wG_at 76 (by decide +kernel), by decide +kernel, by decide +kernel⟩, wG_at 147 (by decide +kernel)⟩
theorem vJx4a65c_118 : cwOK RJx4a65c iJ15_checkIndex_7cf53 118 yJ15_checkIndex_7cf53 2 ∧ Cond.static yJ15_checkIndex_7cf53 ∈ wG := ⟨⟨wG_at 270 (by decide +kernel), wG_at 272 (by decide +kernel), wG_at 90 (by decide +kernel), by decide +kernel, by decide +kernel⟩, wG_at 271 (by decide +kernel)⟩
theorem vJx4a65c_123 : cwOK RJx4a65c iJx4a65c_elementData_915e3 123 yJx4a65c_elementData_915e3 1 ∧ Cond.instanceMethod yJx4a65c_elementData_915e3 ∈ wG ∧ Cond.selects (cR 10) yJx4a65c_elementData_915e3 yJx4a65c_elementData_915e3 ∈ wG := ⟨⟨wG_at 276 (by decide +kernel), wG_at 279 (by decide +kernel), wG_at 73 (by decide +kernel), by decide +kernel, by decide +kernel⟩, wG_at 277 (by decide +kernel), wG_at 278 (by decide +kernel)⟩
theorem vJx4a65c_129 : cwOK RJx4a65c iJx4a65c_grow_d5877 129 yJx4a65c_grow_d5877 0 ∧ Cond.instanceMethod yJx4a65c_grow_d5877 ∈ wG ∧ Cond.selects (cR 10) yJx4a65c_grow_d5877 yJx4a65c_grow_d5877 ∈ wG := ⟨⟨wG_at 527 (by decide +kernel), wG_at 530 (by decide +kernel), wG_at 73 (by decide +kernel), by decide +kernel, by decide +kernel⟩, wG_at 529 (by decide +kernel), wG_at 5 (by decide +kernel)⟩
theorem vJx4a65c_131 : cwOK RJx4a65c iJx4a65c_add_72be8 131 yJx4a65c_add_72be8 3 ∧ Cond.instanceMethod yJx4a65c_add_72be8 ∈ wG ∧ Cond.selects (cR 10) yJx4a65c_add_72be8 yJx4a65c_add_72be8 ∈ wG := ⟨⟨wG_at 523 (by decide +kernel), wG_at 526 (by decide +kernel), wG_at 73 (by decide +kernel), by decide +kernel, by decide +kernel⟩, wG_at 525 (by decide +kernel), wG_at 4 (by decide +kernel)⟩
theorem vJ7_300 : cwOK RJ7 iJ7_copyOf_6403c 300 yJ7_copyOf_6403c 3 ∧ Cond.static yJ7_copyOf_6403c ∈ wG := ⟨⟨wG_at 568 (by decide +kernel), wG_at 570 (by decide +kernel), wG_at 77 (by decide +kernel), by decide +kernel, by decide +kernel⟩, wG_at 569 (by decide +kernel)⟩
theorem vJ7_304 : cwOK RJ7 iJ9_min_7cf53 304 yJ9_min_7cf53 2 ∧ Cond.static yJ9_min_7cf53 ∈ wG := ⟨⟨wG_at 574 (by decide +kernel), wG_at 576 (by decide +kernel), wG_at 76 (by decide +kernel), by decide +kernel, by decide +kernel⟩, wG_at 575 (by decide +kernel)⟩
theorem vJ15_105 : cwOK RJ15 iJ3_checkIndex_8e157 105 yJ3_checkIndex_8e157 3 ∧ Cond.static yJ3_checkIndex_8e157 ∈ wG := ⟨⟨wG_at 273 (by decide +kernel), wG_at 275 (by decide +kernel), wG_at 91 (by decide +kernel), by decide +kernel, by decide +kernel⟩, wG_at 274 (by decide +kernel)⟩
theorem vJ8_194 : cwOK RJ8 iJ9_max_7cf53 194 yJ9_max_7cf53 2 ∧ Cond.static yJ9_max_7cf53 ∈ wG := ⟨⟨wG_at 538 (by decide +kernel), wG_at 148 (by decide +kernel), wG_at 76 (by decide +kernel), by decide +kernel, by decide +kernel⟩, wG_at 147 (by decide +kernel)⟩
theorem vJ8_201 : cwOK RJ8 iJ8_hugeLength_7cf53 201 yJ8_hugeLength_7cf53 2 ∧ Cond.static yJ8_hugeLength_7cf53 ∈ wG := ⟨⟨wG_at 540 (by decide +kernel), wG_at 542 (by decide +kernel), wG_at 88 (by decide +kernel), by decide +kernel, by decide +kernel⟩, wG_at 541 (by decide +kernel)⟩
theorem nX8_7 : Cond.classLink RX8 7 (cR 10) ∈ wG ∧ Cond.instantiable (cR 10) (cK 10) ∈ wG ∧ Cond.initialized (cR 10) ∈ wG := ⟨wG_at 108 (by decide +kernel), wG_at 109 (by decide +kernel), wG_at 73 (by decide +kernel)⟩
theorem nX8_25 : Cond.classLink RX8 25 (cR 7) ∈ wG ∧ Cond.instantiable (cR 7) (cK 7) ∈ wG ∧ Cond.initialized (cR 7) ∈ wG := ⟨wG_at 134 (by decide +kernel), wG_at 135 (by decide +kernel), wG_at 74 (by decide +kernel)⟩
theorem nX8_32 : Cond.classLink RX8 32 (cR 6) ∈ wG ∧ Cond.instantiable (cR 6) (cK 6) ∈ wG ∧ Cond.initialized (cR 6) ∈ wG := ⟨wG_at 180 (by decide +kernel), wG_at 181 (by decide +kernel), wG_at 78 (by decide +kernel)⟩
theorem nX8_41 : Cond.classLink RX8 41 (cR 0) ∈ wG ∧ Cond.instantiable (cR 0) (cK 0) ∈ wG ∧ Cond.initialized (cR 0) ∈ wG := ⟨wG_at 216 (by decide +kernel), wG_at 141 (by decide +kernel), wG_at 75 (by decide +kernel)⟩
theorem nX8_57 : Cond.classLink RX8 57 "java/lang/IllegalStateException" ∈ wG := wG_at 326 (by decide +kernel)
theorem nX8_72 : Cond.classLink RX8 72 "java/lang/IllegalArgumentException" ∈ wG := wG_at 430 (by decide +kernel)
theorem nX8_83 : Cond.classLink RX8 83 (cR 5) ∈ wG ∧ Cond.instantiable (cR 5) (cK 5) ∈ wG ∧ Cond.initialized (cR 5) ∈ wG := ⟨wG_at 447 (by decide +kernel), wG_at 448 (by decide +kernel), wG_at 86 (by decide +kernel)⟩
theorem nX8_110 : Cond.classLink RX8 110 (cR 1) ∈ wG ∧ Cond.instantiable (cR 1) (cK 1) ∈ wG ∧ Cond.initialized (cR 1) ∈ wG := ⟨wG_at 280 (by decide +kernel), wG_at 614 (by decide +kernel), wG_at 92 (by decide +kernel)⟩
theorem nX8_120 : Cond.classLink RX8 120 (cR 4) ∈ wG ∧ Cond.instantiable (cR 4) (cK 4) ∈ wG ∧ Cond.initialized (cR 4) ∈ wG := ⟨wG_at 651 (by decide +kernel), wG_at 652 (by decide +kernel), wG_at 93 (by decide +kernel)⟩
theorem nX8_148 : Cond.classLink RX8 148 (cR 2) ∈ wG ∧ Cond.instantiable (cR 2) (cK 2) ∈ wG ∧ Cond.initialized (cR 2) ∈ wG := ⟨wG_at 285 (by decide +kernel), wG_at 705 (by decide +kernel), wG_at 94 (by decide +kernel)⟩
theorem nX8_180 : Cond.classLink RX8 180 "java/lang/IndexOutOfBoundsException" ∈ wG := wG_at 769 (by decide +kernel)
theorem nX8_222 : Cond.classLink RX8 222 "java/lang/UnsupportedOperationException" ∈ wG := wG_at 929 (by decide +kernel)
theorem nX8_238 : Cond.classLink RX8 238 (cR 3) ∈ wG ∧ Cond.instantiable (cR 3) (cK 3) ∈ wG ∧ Cond.initialized (cR 3) ∈ wG := ⟨wG_at 982 (by decide +kernel), wG_at 454 (by decide +kernel), wG_at 87 (by decide +kernel)⟩
theorem nX8_288 : Cond.classLink RX8 288 "java/util/NoSuchElementException" ∈ wG := wG_at 411 (by decide +kernel)
theorem nX8_326 : Cond.classLink RX8 326 "java/lang/ArithmeticException" ∈ wG := wG_at 1177 (by decide +kernel)
theorem nX5_25 : Cond.classLink RX5 25 (cR 3) ∈ wG ∧ Cond.instantiable (cR 3) (cK 3) ∈ wG ∧ Cond.initialized (cR 3) ∈ wG := ⟨wG_at 453 (by decide +kernel), wG_at 454 (by decide +kernel), wG_at 87 (by decide +kernel)⟩
theorem nX6_15 : Cond.classLink RX6 15 (cR 10) ∈ wG ∧ Cond.instantiable (cR 10) (cK 10) ∈ wG ∧ Cond.initialized (cR 10) ∈ wG := ⟨wG_at 186 (by decide +kernel), wG_at 109 (by decide +kernel), wG_at 73 (by decide +kernel)⟩
theorem nX6_22 : Cond.classLink RX6 22 (cR 0) ∈ wG ∧ Cond.instantiable (cR 0) (cK 0) ∈ wG ∧ Cond.initialized (cR 0) ∈ wG := ⟨wG_at 188 (by decide +kernel), wG_at 141 (by decide +kernel), wG_at 75 (by decide +kernel)⟩
theorem nX6_63 : Cond.classLink RX6 63 (cR 3) ∈ wG ∧ Cond.instantiable (cR 3) (cK 3) ∈ wG ∧ Cond.initialized (cR 3) ∈ wG := ⟨wG_at 885 (by decide +kernel), wG_at 454 (by decide +kernel), wG_at 87 (by decide +kernel)⟩
theorem nX7_9 : Cond.classLink RX7 9 (cR 0) ∈ wG ∧ Cond.instantiable (cR 0) (cK 0) ∈ wG ∧ Cond.initialized (cR 0) ∈ wG := ⟨wG_at 140 (by decide +kernel), wG_at 141 (by decide +kernel), wG_at 75 (by decide +kernel)⟩
theorem nX7_31 : Cond.classLink RX7 31 (cR 5) ∈ wG ∧ Cond.instantiable (cR 5) (cK 5) ∈ wG ∧ Cond.initialized (cR 5) ∈ wG := ⟨wG_at 838 (by decide +kernel), wG_at 448 (by decide +kernel), wG_at 86 (by decide +kernel)⟩
theorem nL_8 : Cond.classLink RL 8 (cR 8) ∈ wG ∧ Cond.instantiable (cR 8) (cK 8) ∈ wG ∧ Cond.initialized (cR 8) ∈ wG := ⟨wG_at 100 (by decide +kernel), wG_at 101 (by decide +kernel), wG_at 70 (by decide +kernel)⟩
theorem nL_13 : Cond.classLink RL 13 "java/lang/IllegalStateException" ∈ wG := wG_at 321 (by decide +kernel)
theorem nL_19 : Cond.classLink RL 19 "java/util/NoSuchElementException" ∈ wG := wG_at 401 (by decide +kernel)
theorem nL_21 : Cond.classLink RL 21 "java/lang/IllegalArgumentException" ∈ wG := wG_at 402 (by decide +kernel)
theorem nL_50 : Cond.classLink RL 50 "java/lang/IndexOutOfBoundsException" ∈ wG := wG_at 736 (by decide +kernel)
theorem nL_80 : Cond.classLink RL 80 "java/lang/UnsupportedOperationException" ∈ wG := wG_at 924 (by decide +kernel)
theorem nL_133 : Cond.classLink RL 133 "java/lang/ArithmeticException" ∈ wG := wG_at 1159 (by decide +kernel)
theorem nL_140 : Cond.classLink RL 140 (cR 9) ∈ wG ∧ Cond.instantiable (cR 9) (cK 9) ∈ wG ∧ Cond.initialized (cR 9) ∈ wG := ⟨wG_at 1188 (by decide +kernel), wG_at 1189 (by decide +kernel), wG_at 79 (by decide +kernel)⟩
theorem nJx4a65c_7 : Cond.classLink RJx4a65c 7 "java/lang/Object" ∈ wG := wG_at 581 (by decide +kernel)
theorem nJ7_2 : Cond.classLink RJ7 2 "java/lang/Object" ∈ wG := wG_at 573 (by decide +kernel)
theorem nJ7_110 : Cond.classLink RJ7 110 "[Ljava/lang/Object;" ∈ wG := wG_at 571 (by decide +kernel)
theorem kX0_28 : Cond.constant RX0 28 1000000 ∈ wG := wG_at 149 (by decide +kernel)
theorem kJ8_200 : Cond.constant RJ8 200 2147483639 ∈ wG := wG_at 539 (by decide +kernel)
theorem kX7_64 : Cond.constant RX7 64 1000000 ∈ wG := wG_at 599 (by decide +kernel)
theorem kX8_333 : Cond.constant RX8 333 1000000 ∈ wG := wG_at 824 (by decide +kernel)
theorem kX6_91 : Cond.constant RX6 91 1000000 ∈ wG := wG_at 887 (by decide +kernel)
theorem kX9_136 : Cond.constant RX9 136 100000 ∈ wG := wG_at 1430 (by decide +kernel)
theorem wA_int : Cond.arrayClass FieldType.int ∈ wG := wG_at 163 (by decide +kernel)
theorem wA_byte : Cond.arrayClass FieldType.byte ∈ wG := wG_at 397 (by decide +kernel)
theorem wA_boolean : Cond.arrayClass FieldType.boolean ∈ wG := wG_at 1306 (by decide +kernel)
theorem wA_long : Cond.arrayClass FieldType.long ∈ wG := wG_at 1622 (by decide +kernel)
theorem wA_double : Cond.arrayClass FieldType.double ∈ wG := wG_at 1623 (by decide +kernel)
theorem vJ7_86 : Cond.methodLink RJ7 86 gcN ∈ wG := wG_at 546 (by decide +kernel)
theorem vJ7_150 : Cond.methodLink RJ7 150 arraycopyName ∈ wG := wG_at 577 (by decide +kernel)
end WORDS
end
section
/-! The memory of the system as functions: one map of kinds, one map a field (by its number), one a kind of array. -/
section MEM
def iz (z : Int) : Int32 := Int32.ofInt z
def bz (b : Bool) : Int32 := iz (if b then 1 else 0)
abbrev Mem : Type := Nat × (Nat → Option (Nat × Nat)) × (Nat → Nat → Int32) × (Nat → Nat → Option Nat) × (Nat → Nat → Int64) × (Nat → Nat → Int32) × (Nat → Nat → Option Nat) × (Nat → Nat → Int64) × (Nat → Nat → UInt64)
def mN (M : Mem) : Nat := M.1
def mC (M : Mem) : Nat → Option (Nat × Nat) := M.2.1
def mI (M : Mem) : Nat → Nat → Int32 := M.2.2.1
def mR (M : Mem) : Nat → Nat → Option Nat := M.2.2.2.1
def mJ (M : Mem) : Nat → Nat → Int64 := M.2.2.2.2.1
def mA (M : Mem) : Nat → Nat → Int32 := M.2.2.2.2.2.1
def mQ (M : Mem) : Nat → Nat → Option Nat := M.2.2.2.2.2.2.1
def mL (M : Mem) : Nat → Nat → Int64 := M.2.2.2.2.2.2.2.1
def mD (M : Mem) : Nat → Nat → UInt64 := M.2.2.2.2.2.2.2.2
def sN (M : Mem) (n : Nat) : Mem := (n, mC M, mI M, mR M, mJ M, mA M, mQ M, mL M, mD M)
def sI (M : Mem) (f : Nat) (g : Nat → Int32) : Mem := (mN M, mC M, va_up (mI M) f g, mR M, mJ M, mA M, mQ M, mL M, mD M)
def sR (M : Mem) (f : Nat) (g : Nat → Option Nat) : Mem := (mN M, mC M, mI M, va_up (mR M) f g, mJ M, mA M, mQ M, mL M, mD M)
def sJ (M : Mem) (f : Nat) (g : Nat → Int64) : Mem := (mN M, mC M, mI M, mR M, va_up (mJ M) f g, mA M, mQ M, mL M, mD M)
def sA (M : Mem) (a : Nat) (g : Nat → Int32) : Mem := (mN M, mC M, mI M, mR M, mJ M, va_up (mA M) a g, mQ M, mL M, mD M)
def sQ (M : Mem) (a : Nat) (g : Nat → Option Nat) : Mem := (mN M, mC M, mI M, mR M, mJ M, mA M, va_up (mQ M) a g, mL M, mD M)
def sL (M : Mem) (a : Nat) (g : Nat → Int64) : Mem := (mN M, mC M, mI M, mR M, mJ M, mA M, mQ M, va_up (mL M) a g, mD M)
def sD (M : Mem) (a : Nat) (g : Nat → UInt64) : Mem := (mN M, mC M, mI M, mR M, mJ M, mA M, mQ M, mL M, va_up (mD M) a g)
/-- a cell of the kind t and length z comes at the end, all of it zero or null -/
def nw (M : Mem) (t z : Nat) : Mem := (mN M + 1, va_up (mC M) (mN M) (some (t, z)), fun f a => if a = mN M then 0 else mI M f a, fun f a => if a = mN M then none else mR M f a, fun f a => if a = mN M then 0 else mJ M f a, va_up (mA M) (mN M) (fun _ => 0), va_up (mQ M) (mN M) (fun _ => none), va_up (mL M) (mN M) (fun _ => 0), va_up (mD M) (mN M) (fun _ => 0))
/-- what the field k of an object of the kind t at a holds -/
def fv (M : Mem) (t k a : Nat) : Value := match cY t k with
  | .long => .long (mJ M (64 * t + k) a)
  | .object _ => va_rf (mR M (64 * t + k) a)
  | .array _ => va_rf (mR M (64 * t + k) a)
  | _ => .int (mI M (64 * t + k) a)
def av (M : Mem) (t a j : Nat) : Value := match t with
  | 13 => va_rf (mQ M a j)
  | 17 => va_rf (mQ M a j)
  | 14 => .long (mL M a j)
  | 15 => .double (mD M a j)
  | _ => .int (mA M a j)
def aY (t : Nat) : FieldType := match t with
  | 12 => .boolean
  | 13 => .object "java/lang/Object"
  | 17 => .object "java/lang/Object"
  | 14 => .long
  | 15 => .double
  | _ => .int
/-- the state at the law's entry, the classes' numbers and slots, the array classes' numbers -/
abbrev GC : Type := State × va_G × (Nat → ClassId) × Nat
def gB (G : GC) : Nat := G.1.heap.size
def OKc (G : GC) (M : Mem) (a t z : Nat) (H : Heap) : Prop := (t < 11 → t_OB a (G.2.1.1 t) (cK t) (G.2.1.2 t) H (fun k => fv M t k a)) ∧ (¬ t < 11 → H[a]? = some (arrV (G.2.2.1 t) z (av M t a)))
def Rel (G : GC) (M : Mem) (H : Heap) : Prop := H.size = mN M ∧ gB G ≤ mN M ∧ (∀ a, a < gB G → H[a]? = G.1.heap[a]?) ∧ ∀ a t z, mC M a = some (t, z) → a < mN M ∧ (t < 16 → gB G ≤ a) ∧ OKc G M a t z H
def gCast : List (String × String) := [("Candleford$Grid", "java/lang/Object"), ("Candleford$House", "java/lang/Object"), ("Candleford$Parcel", "java/lang/Object"), ("Candleford$Pass", "java/lang/Object"), ("Candleford$Round", "java/lang/Object"), ("Candleford$Street", "java/lang/Object"), ("Candleford$Walk", "java/lang/Object"), ("Candleford$Ways", "java/lang/Object"), ("Candleford", "java/lang/Object"), ("CandlefordModel", "java/lang/Object"), ("java/util/ArrayList", "java/lang/Object"), ("java/lang/IllegalStateException", "java/lang/IllegalStateException"), ("java/lang/IllegalArgumentException", "java/lang/IllegalArgumentException"), ("java/lang/IndexOutOfBoundsException", "java/lang/IndexOutOfBoundsException"), ("java/lang/UnsupportedOperationException", "java/lang/UnsupportedOperationException"), ("java/util/NoSuchElementException", "java/util/NoSuchElementException"), ("java/lang/ArithmeticException", "java/lang/ArithmeticException")]
def gNot : List (String × String) := [("java/lang/IllegalStateException", "java/lang/IllegalArgumentException"), ("java/lang/IllegalStateException", "java/lang/IndexOutOfBoundsException"), ("java/lang/IllegalStateException", "java/lang/UnsupportedOperationException"), ("java/lang/IllegalStateException", "java/util/NoSuchElementException"), ("java/lang/IllegalStateException", "java/lang/ArithmeticException"), ("java/lang/IllegalArgumentException", "java/lang/IllegalStateException"), ("java/lang/IllegalArgumentException", "java/lang/IndexOutOfBoundsException"), ("java/lang/IllegalArgumentException", "java/lang/UnsupportedOperationException"), ("java/lang/IllegalArgumentException", "java/util/NoSuchElementException"), ("java/lang/IllegalArgumentException", "java/lang/ArithmeticException"), ("java/lang/IndexOutOfBoundsException", "java/lang/IllegalStateException"), ("java/lang/IndexOutOfBoundsException", "java/lang/IllegalArgumentException"), ("java/lang/IndexOutOfBoundsException", "java/lang/UnsupportedOperationException"), ("java/lang/IndexOutOfBoundsException", "java/util/NoSuchElementException"), ("java/lang/IndexOutOfBoundsException", "java/lang/ArithmeticException"), ("java/lang/UnsupportedOperationException", "java/lang/IllegalStateException"), ("java/lang/UnsupportedOperationException", "java/lang/IllegalArgumentException"), ("java/lang/UnsupportedOperationException", "java/lang/IndexOutOfBoundsException"), ("java/lang/UnsupportedOperationException", "java/util/NoSuchElementException"), ("java/lang/UnsupportedOperationException", "java/lang/ArithmeticException"), ("java/util/NoSuchElementException", "java/lang/IllegalStateException"), ("java/util/NoSuchElementException", "java/lang/IllegalArgumentException"), ("java/util/NoSuchElementException", "java/lang/IndexOutOfBoundsException"), ("java/util/NoSuchElementException", "java/lang/UnsupportedOperationException"), ("java/util/NoSuchElementException", "java/lang/ArithmeticException"), ("java/lang/ArithmeticException", "java/lang/IllegalStateException"), ("java/lang/ArithmeticException", "java/lang/IllegalArgumentException"), ("java/lang/ArithmeticException", "java/lang/IndexOutOfBoundsException"), ("java/lang/ArithmeticException", "java/lang/UnsupportedOperationException"), ("java/lang/ArithmeticException", "java/util/NoSuchElementException")]
def gStr : List (String × Nat × String) := [("Candleford", 59, "no more places"), ("Candleford", 74, "the ends are the same or the length is out of range"), ("Candleford", 81, "no more streets"), ("Candleford", 106, "the side or the offset is out of range"), ("Candleford", 108, "no more houses"), ("Candleford", 116, "the limit is out of range"), ("Candleford", 118, "no more rounds"), ("Candleford", 131, "the weight is out of range"), ("Candleford", 137, "the number of letters is out of range"), ("Candleford", 142, "too many letters for the house"), ("Candleford", 144, "the weight or the deadline is out of range"), ("Candleford", 146, "no more parcels on this day"), ("Candleford", 167, "the side is out of range"), ("Candleford", 182, "no such rank"), ("Candleford", 224, "too many passes to try all orders"), ("Candleford", 236, "no such pass"), ("Candleford", 248, "no such place"), ("Candleford", 262, "the house is not due or in no round"), ("Candleford", 267, "the round is not in time"), ("Candleford", 279, "the merged round would not be in time"), ("Candleford", 290, "no merge saves anything"), ("Candleford", 308, "no heavy parcel waits"), ("Candleford", 328, "the van has delivered none"), ("Candleford", 331, "no house is due"), ("Candleford", 334, "no such street"), ("Candleford", 336, "no such house"), ("Candleford", 338, "no such round"), ("Candleford", 340, "no such parcel"), ("Candleford", 369, "the round has no walk"), ("Candleford", 371, "both rounds are the same"), ("Candleford", 373, "one of the rounds has no walk"), ("Candleford", 385, "no way leads to the street")]
/-- what is known of the start: classes, array classes, where the throwables' statics lie, no stack traces, which classes are castable, the texts, the lists' empty row, an array class's mirror -/
def GOK (G : GC) (l : Launch) : Prop := l.stackTraces = false ∧ (∀ t, t < 11 → u_Kn G.1 (cR t) (cT t) (cK t) (G.2.1.1 t) (G.2.1.2 t)) ∧ (∀ t, 11 ≤ t → t < 18 → ArrOfT G.1 (G.2.2.1 t) (aY t) ∧ va_RA G.1 (G.2.2.1 t) (aY t)) ∧
  vx_Zq Bundle.tN "UNASSIGNED_STACK" Bundle.steD (fun q => gB G ≤ q) G.1 G.1.heap ∧ vx_Zq Bundle.tN "SUPPRESSED_SENTINEL" Bundle.listD (fun q => gB G ≤ q) G.1 G.1.heap ∧ va_AO "java/lang/Object" G.1 ∧
  (∀ q ∈ gCast, va_Nw (.castable q.1 q.2) G.1) ∧ (∀ q ∈ gNot, va_Nc q.1 q.2 G.1) ∧ (∀ q ∈ gStr, ∃ a, vk_R q.1 q.2.1 q.2.2 a G.1) ∧ va_Z "java/util/ArrayList" "DEFAULTCAPACITY_EMPTY_ELEMENTDATA" "[Ljava/lang/Object;" (.ref G.2.2.2) (fun q => gB G ≤ q) G.1 G.1.heap ∧ (∃ mi, va_Mi "[Ljava/lang/Object;" mi G.1) ∧ va_Dc G.1
end MEM
section MEML
variable (M : Mem) (f g a b t z n : Nat)
theorem mN_sN : mN (sN M n) = n := rfl
theorem mI_sI (G : Nat → Int32) : mI (sI M f G) f = G := by simp [mI, sI, va_up]
theorem mI_sIn (G : Nat → Int32) (h : g ≠ f) : mI (sI M f G) g = mI M g := by
  show va_up (mI M) f G g = mI M g
  simp [va_up, h]
theorem mR_sR (G : Nat → Option Nat) : mR (sR M f G) f = G := by simp [mR, sR, va_up]
theorem mR_sRn (G : Nat → Option Nat) (h : g ≠ f) : mR (sR M f G) g = mR M g := by
  show va_up (mR M) f G g = mR M g
  simp [va_up, h]
theorem mJ_sJ (G : Nat → Int64) : mJ (sJ M f G) f = G := by simp [mJ, sJ, va_up]
theorem mJ_sJn (G : Nat → Int64) (h : g ≠ f) : mJ (sJ M f G) g = mJ M g := by
  show va_up (mJ M) f G g = mJ M g
  simp [va_up, h]
theorem mA_sA (G : Nat → Int32) : mA (sA M a G) a = G := by simp [mA, sA, va_up]
theorem mA_sAn (G : Nat → Int32) (h : b ≠ a) : mA (sA M a G) b = mA M b := by
  show va_up (mA M) a G b = mA M b
  simp [va_up, h]
theorem mQ_sQ (G : Nat → Option Nat) : mQ (sQ M a G) a = G := by simp [mQ, sQ, va_up]
theorem mQ_sQn (G : Nat → Option Nat) (h : b ≠ a) : mQ (sQ M a G) b = mQ M b := by
  show va_up (mQ M) a G b = mQ M b
  simp [va_up, h]
theorem mL_sL (G : Nat → Int64) : mL (sL M a G) a = G := by simp [mL, sL, va_up]
theorem mL_sLn (G : Nat → Int64) (h : b ≠ a) : mL (sL M a G) b = mL M b := by
  show va_up (mL M) a G b = mL M b
  simp [va_up, h]
theorem mD_sD (G : Nat → UInt64) : mD (sD M a G) a = G := by simp [mD, sD, va_up]
theorem mD_sDn (G : Nat → UInt64) (h : b ≠ a) : mD (sD M a G) b = mD M b := by
  show va_up (mD M) a G b = mD M b
  simp [va_up, h]
theorem up_up {α : Type} (F : Nat → α) (k : Nat) (v w : α) : va_up (va_up F k v) k w = va_up F k w := by
  funext j
  simp only [va_up]
  split <;> rfl
theorem up_id {α : Type} (F : Nat → α) (k : Nat) : va_up F k (F k) = F := by
  funext j
  simp only [va_up]
  split
  · next h => rw [h]
  · rfl
theorem up_s {α : Type} (F : Nat → α) (k : Nat) (v : α) : va_up F k v k = v := by simp [va_up]
theorem up_n {α : Type} (F : Nat → α) {k j : Nat} (v : α) (h : j ≠ k) : va_up F k v j = F j := by simp [va_up, h]
theorem sI_sI (G K : Nat → Int32) : sI (sI M f G) f K = sI M f K := by
  show (mN M, mC M, va_up (va_up (mI M) f G) f K, mR M, mJ M, mA M, mQ M, mL M, mD M) = _
  rw [up_up]; rfl
theorem sA_sA (G K : Nat → Int32) : sA (sA M a G) a K = sA M a K := by
  show (mN M, mC M, mI M, mR M, mJ M, va_up (va_up (mA M) a G) a K, mQ M, mL M, mD M) = _
  rw [up_up]; rfl
theorem sQ_sQ (G K : Nat → Option Nat) : sQ (sQ M a G) a K = sQ M a K := by
  show (mN M, mC M, mI M, mR M, mJ M, mA M, va_up (va_up (mQ M) a G) a K, mL M, mD M) = _
  rw [up_up]; rfl
theorem sR_sR (G K : Nat → Option Nat) : sR (sR M f G) f K = sR M f K := by
  show (mN M, mC M, mI M, va_up (va_up (mR M) f G) f K, mJ M, mA M, mQ M, mL M, mD M) = _
  rw [up_up]; rfl
theorem sI_id : sI M f (mI M f) = M := by
  show (mN M, mC M, va_up (mI M) f (mI M f), mR M, mJ M, mA M, mQ M, mL M, mD M) = _
  rw [up_id]; rfl
theorem sA_id : sA M a (mA M a) = M := by
  show (mN M, mC M, mI M, mR M, mJ M, va_up (mA M) a (mA M a), mQ M, mL M, mD M) = _
  rw [up_id]; rfl
theorem sQ_id : sQ M a (mQ M a) = M := by
  show (mN M, mC M, mI M, mR M, mJ M, mA M, va_up (mQ M) a (mQ M a), mL M, mD M) = _
  rw [up_id]; rfl
theorem sN_id : sN M (mN M) = M := rfl
theorem sN_sN (n' : Nat) : sN (sN M n) n' = sN M n' := rfl
end MEML
section IZ
theorem iz_add (a b : Int) : iz a + iz b = iz (a + b) := (Int32.ofInt_add a b).symm
theorem iz_sub (a b : Int) : iz a - iz b = iz (a - b) := (Int32.ofInt_sub a b).symm
theorem iz_mul (a b : Int) : iz a * iz b = iz (a * b) := (Int32.ofInt_mul a b).symm
theorem iz_of (x : Int32) : x = iz x.toInt := (Int32.ofInt_toInt x).symm
theorem iz_rng (x : Int32) : -2147483648 ≤ x.toInt ∧ x.toInt < 2147483648 := ⟨by have := Int32.le_toInt x; omega, by have := Int32.toInt_lt x; omega⟩
/-- the range in which the numbers are themselves -/
abbrev inR (z : Int) : Prop := -2147483648 ≤ z ∧ z < 2147483648
theorem iz_toInt {z : Int} (h : inR z) : (iz z).toInt = z := by
  obtain ⟨h1, h2⟩ := h
  rw [iz, Int32.toInt_ofInt_of_le (by simpa using h1) (by simpa using h2)]
theorem iz_inj {a b : Int} (ha : inR a) (hb : inR b) : iz a = iz b ↔ a = b := ⟨fun h => by rw [← iz_toInt ha, ← iz_toInt hb, h], fun h => by rw [h]⟩
theorem iz_lt {a b : Int} (ha : inR a) (hb : inR b) : iz a < iz b ↔ a < b := by rw [Int32.lt_iff_toInt_lt, iz_toInt ha, iz_toInt hb]
theorem iz_le {a b : Int} (ha : inR a) (hb : inR b) : iz a ≤ iz b ↔ a ≤ b := by rw [Int32.le_iff_toInt_le, iz_toInt ha, iz_toInt hb]
theorem iz_0 : (0 : Int32) = iz 0 := by decide +kernel
theorem iz_nI (n : Nat) : nI n = iz (n : Int) := by
  show Int32.ofNat n = Int32.ofInt n
  first
    | rfl
    | exact (Int32.ofInt_eq_ofNat (n := n)).symm
    | exact Int32.ofInt_eq_ofNat.symm
    | (apply Int32.toBitVec_inj.mp; simp [Int32.toBitVec_ofInt, Int32.toBitVec_ofNat, BitVec.ofInt_natCast])
    | (apply Int32.toBitVec_inj.mp; simp; done)
    | (apply Int32.toInt_inj.mp; simp [Int32.toInt_ofInt, Int32.toInt_ofNat])
theorem iz_clamp {n : Nat} (h : n < 2147483648) : (iz (n : Int)).toNatClampNeg = n := by rw [← iz_nI]; exact nI_clamp h
theorem iz_in {n N : Nat} (h : n < N) (hN : N ≤ 2147483648) : vp_in (iz (n : Int)) N := by
  rw [← iz_nI]
  intro q
  rcases q with q | q
  · exact nI_pos (n := n) (by omega) q
  · rw [nI_clamp (by omega)] at q; omega
theorem bz_t : bz true = iz 1 := rfl
theorem bz_f : bz false = iz 0 := rfl
theorem bz_ne (b : Bool) : (bz b = 0 ↔ b = false) := by cases b <;> decide +kernel
theorem bz_1 (b : Bool) : (bz b = 0) = (b = false) := propext (bz_ne b)
theorem bz_narrow (b : Bool) : narrow .boolean (.int (bz b)) = .int (bz b) := by cases b <;> decide +kernel
theorem bz_inj {a b : Bool} (h : bz a = bz b) : a = b := by
  cases a <;> cases b <;> first | rfl | exact absurd h (by decide +kernel)
end IZ
end
section
/-! Walks over the memory: SWG says that from the place pc, with these locals, this stack and this memory, the method goes on to an end with Qf. -/
section SWX
theorem nbeq : ∀ i : Nat, Nat.beq i i = true
  | 0 => rfl
  | i + 1 => nbeq i
def Amb (G : GC) (mi : MI) (p : Program) (l : Launch) (s : State) (m : MethodId) (args : Array Value) (meth : Method) (c : Code) : Prop :=
  p.tables.exec = Jvm.exec ∧ c.code = mi.2.1 ∧ c.maxLocals = mi.2.2.1 ∧ s.vm.findClass mi.1 = some m.cls ∧ (∀ w ∈ wG, w.before args s = true) ∧ meth.locks = false ∧ G.1.WarmedH s.vm ∧ GOK G l ∧ meth.sig.returnType = mi.2.2.2.1 ∧ meth.name = mi.2.2.2.2.1 ∧ c.exceptionTable.toList = tableOf mi.2.2.2.2.2 ∧ (∀ a, a < gB G → s.heap[a]? = G.1.heap[a]?) ∧ gB G ≤ s.heap.size
/-- the locals: what is known of them, the first row for a place counts -/
def lk : List (Nat × Value) → Nat → Option Value
  | [], _ => none
  | (j, v) :: r, i => match Nat.beq j i with
    | true => some v
    | false => lk r i
def lh (ls : Array Slot) (n : Nat) (L : List (Nat × Value)) : Prop := ls.size = n ∧ lv_wf ls ∧ ∀ i v, lk L i = some v → ls[i]? = some (.val v)
/-- a store at i keeps what is known, if no double word stands before it -/
def ok1 (L : List (Nat × Value)) : Nat → Bool
  | 0 => true
  | i + 1 => match lk L i with
    | some v => Nat.beq v.category 1
    | none => true
theorem lh_store1 {ls : Array Slot} {n : Nat} {L : List (Nat × Value)} {i : Nat} {v : Value} (h : lh ls n L) (hi : i < n) (hc : v.category = 1) (ho : ok1 L i = true) : ∃ ls', storeLocals ls i v = some ls' ∧ lh ls' n ((i, v) :: L) := by
  obtain ⟨h1, h2, h3⟩ := h
  obtain ⟨ls', e, hs⟩ := lv_store1 (l := []) (v := v) ⟨h1, h2, fun q hq => by cases hq⟩ hi hc
  refine ⟨ls', e, hs.1, hs.2.1, fun j w hj => ?_⟩
  by_cases hji : i = j
  · subst hji
    have hb : Nat.beq i i = true := nbeq i
    simp only [lk, hb, Option.some.injEq] at hj
    subst hj
    exact hs.2.2 (i, v) List.mem_cons_self
  · have hb : Nat.beq i j = false := by
      cases hx : Nat.beq i j with
      | true => exact absurd (Nat.eq_of_beq_eq_true hx) hji
      | false => rfl
    simp only [lk, hb] at hj
    obtain ⟨ls'', e', hs'⟩ := lv_store1 (l := [(j, w)]) (v := v) ⟨h1, h2, fun q hq => by rw [List.mem_singleton.mp hq]; exact h3 j w hj⟩ hi hc
    cases e.symm.trans e'
    refine hs'.2.2 (j, w) (List.mem_cons_of_mem _ (List.mem_filter.mpr ⟨List.mem_singleton.mpr rfl, ?_⟩))
    have a1 : (j == i) = false := by simp; exact fun q => hji q.symm
    by_cases a2 : j + 1 = i
    · subst a2
      simp only [ok1, hj] at ho
      have a3 : w.category = 1 := Nat.eq_of_beq_eq_true ho
      simp [a3]
    · simp [a2]; exact fun q => hji q.symm
theorem lh_store2 {ls : Array Slot} {n : Nat} {L : List (Nat × Value)} {i : Nat} {v : Value} (h : lh ls n L) (hi : i + 1 < n) (hc : v.category = 2) (ho : ok1 L i = true) (ho2 : lk L (i + 1) = none) : ∃ ls', storeLocals ls i v = some ls' ∧ lh ls' n ((i, v) :: L) := by
  obtain ⟨h1, h2, h3⟩ := h
  obtain ⟨ls', e, hs⟩ := lv_store2 (l := []) (v := v) ⟨h1, h2, fun q hq => by cases hq⟩ hi hc
  refine ⟨ls', e, hs.1, hs.2.1, fun j w hj => ?_⟩
  by_cases hji : i = j
  · subst hji
    have hb : Nat.beq i i = true := nbeq i
    simp only [lk, hb, Option.some.injEq] at hj
    subst hj
    exact hs.2.2 (i, v) List.mem_cons_self
  · have hb : Nat.beq i j = false := by
      cases hx : Nat.beq i j with
      | true => exact absurd (Nat.eq_of_beq_eq_true hx) hji
      | false => rfl
    simp only [lk, hb] at hj
    obtain ⟨ls'', e', hs'⟩ := lv_store2 (l := [(j, w)]) (v := v) ⟨h1, h2, fun q hq => by rw [List.mem_singleton.mp hq]; exact h3 j w hj⟩ hi hc
    cases e.symm.trans e'
    refine hs'.2.2 (j, w) (List.mem_cons_of_mem _ (List.mem_filter.mpr ⟨List.mem_singleton.mpr rfl, ?_⟩))
    have a0 : ¬ j = i + 1 := fun q => by rw [q, ho2] at hj; cases hj
    by_cases a2 : j + 1 = i
    · subst a2
      simp only [ok1, hj] at ho
      have a3 : w.category = 1 := Nat.eq_of_beq_eq_true ho
      simp [a3]
      omega
    · simp [a2, a0]; exact fun q => hji q.symm
theorem lh_of {ls : Array Slot} {n : Nat} {l : List (Nat × Value)} (h : lv_has ls n l) : lh ls n l := by
  refine ⟨h.1, h.2.1, fun i v hi => h.2.2 (i, v) ?_⟩
  clear h
  induction l with
  | nil => cases hi
  | cons a r ih =>
    obtain ⟨j, w⟩ := a
    simp only [lk] at hi
    split at hi
    · next hb =>
      cases hi
      rw [Nat.eq_of_beq_eq_true hb]
      exact List.mem_cons_self
    · exact List.mem_cons_of_mem _ (ih hi)
/-- fewer are known -/
theorem lh_sub {ls : Array Slot} {n : Nat} {L L' : List (Nat × Value)} (h : lh ls n L) (hs : ∀ q ∈ L', lk L q.1 = some q.2) : lh ls n L' := by
  refine ⟨h.1, h.2.1, fun i v hi => h.2.2 i v ?_⟩
  clear h
  induction L' with
  | nil => cases hi
  | cons a r ih =>
    obtain ⟨j, w⟩ := a
    simp only [lk] at hi
    split at hi
    · next hb =>
      cases hi
      rw [← Nat.eq_of_beq_eq_true hb]
      exact hs (j, v) List.mem_cons_self
    · exact ih (fun q hq => hs q (List.mem_cons_of_mem _ hq)) hi
def SWG (G : GC) (mi : MI) (R : Room) (Qf : List Frame → Array Value → State → State → Prop) (pc : Nat) (L : List (Nat × Value)) (st : List Value) (M : Mem) (kc ks : Nat) : Prop :=
  ∀ (p : Program) (l : Launch) (e : Env) (s : State) (m : MethodId) (args : Array Value) (below : List Frame) (meth : Method) (c : Code), Amb G mi p l s m args meth c → ∀ (ls : Array Slot) (H : Heap) (locs : List Loc), lh ls mi.2.2.1 L → Rel G M H → (∀ q ∈ locs, gB G ≤ q.base) →
    W p l e R s m args below meth c H locs kc ks (Qf below args s) (F0 m pc ls st)
/-- an exception of the class E thrown at pc -/
def SXG (G : GC) (mi : MI) (R : Room) (Qf : List Frame → Array Value → State → State → Prop) (pc : Nat) (L : List (Nat × Value)) (M : Mem) (kc ks : Nat) (E : String) : Prop :=
  ∀ (p : Program) (l : Launch) (e : Env) (s : State) (m : MethodId) (args : Array Value) (below : List Frame) (meth : Method) (c : Code), Amb G mi p l s m args meth c → ∀ (ls : Array Slot) (H : Heap) (locs : List Loc), lh ls mi.2.2.1 L → Rel G M H → (∀ q ∈ locs, gB G ≤ q.base) →
    ∀ (q : Addr) (ce : Cell) (rest : List Value), H[q]? = some ce → ce.vm = .none → s.vm.findClass E = some ce.cls → vx_W p l e R s m args below meth c H locs kc ks (Qf below args s) (F0 m pc ls rest) q
section ROWS
variable {G : GC} {mi : MI} {R : Room} {Qf : List Frame → Array Value → State → State → Prop} {pc : Nat} {L : List (Nat × Value)} {st : List Value} {M : Mem} {kc ks : Nat}
/-- the locals said anew: fewer, in any order -/
theorem r_loc {L' : List (Nat × Value)} (hs : ∀ q ∈ L', lk L q.1 = some q.2) (k : SWG G mi R Qf pc L' st M kc ks) : SWG G mi R Qf pc L st M kc ks := by
  intro p l e s m args below meth c E ls H locs hl hR hf
  exact k p l e s m args below meth c E ls H locs (lh_sub hl hs) hR hf
theorem r_wid {kc' ks' : Nat} (h1 : kc ≤ kc') (h2 : ks ≤ ks') (k : SWG G mi R Qf pc L st M kc' ks') : SWG G mi R Qf pc L st M kc ks := by
  intro p l e s m args below meth c E ls H locs hl hR hf
  exact W.widen h1 h2 (k p l e s m args below meth c E ls H locs hl hR hf)
/-- an address that the map names lies in the heap -/
theorem r_lt (k : (∀ a t z, mC M a = some (t, z) → a < mN M ∧ (t < 16 → gB G ≤ a)) → SWG G mi R Qf pc L st M kc ks) : SWG G mi R Qf pc L st M kc ks := by
  intro p l e s m args below meth c E ls H locs hl hR hf
  exact k (fun a t z h => ⟨(hR.2.2.2 a t z h).1, (hR.2.2.2 a t z h).2.1⟩) p l e s m args below meth c E ls H locs hl hR hf
theorem r_iconst {n : Int} (d : decode mi.2.1 pc = .ok (.iconst n, 1)) (k : SWG G mi R Qf (pc + 1) L (.int (iz n) :: st) M kc ks) : SWG G mi R Qf pc L st M kc ks := by
  intro p l e s m args below meth c E ls H locs hl hR hf
  exact lv_iconst E.1 E.2.1 d rfl (k p l e s m args below meth c E ls H locs hl hR hf)
theorem r_bipush {n : Int} (d : decode mi.2.1 pc = .ok (.bipush n, 2)) (h : (Int8.ofInt n).toInt32 = iz n := by decide +kernel) (k : SWG G mi R Qf (pc + 2) L (.int (iz n) :: st) M kc ks) : SWG G mi R Qf pc L st M kc ks := by
  intro p l e s m args below meth c E ls H locs hl hR hf
  exact lv_bipush E.1 E.2.1 d h (k p l e s m args below meth c E ls H locs hl hR hf)
theorem r_sipush {n : Int} (d : decode mi.2.1 pc = .ok (.sipush n, 3)) (h : (Int16.ofInt n).toInt32 = iz n := by decide +kernel) (k : SWG G mi R Qf (pc + 3) L (.int (iz n) :: st) M kc ks) : SWG G mi R Qf pc L st M kc ks := by
  intro p l e s m args below meth c E ls H locs hl hR hf
  exact lv_sipush E.1 E.2.1 d h (k p l e s m args below meth c E ls H locs hl hR hf)
theorem r_ldc {n : Int} {v : Int32} {index : Nat} (w : Cond.constant mi.1 index v ∈ wG) (d : decode mi.2.1 pc = .ok (.ldc index, 2)) (h : v = iz n := by decide +kernel) (k : SWG G mi R Qf (pc + 2) L (.int (iz n) :: st) M kc ks) : SWG G mi R Qf pc L st M kc ks := by
  intro p l e s m args below meth c E ls H locs hl hR hf
  subst h
  exact lv_ldc E.1 E.2.1 E.2.2.2.1 (E.2.2.2.2.1 _ w) d (k p l e s m args below meth c E ls H locs hl hR hf)
theorem r_null (d : decode mi.2.1 pc = .ok (.aconst_null, 1)) (k : SWG G mi R Qf (pc + 1) L (.null :: st) M kc ks) : SWG G mi R Qf pc L st M kc ks := by
  intro p l e s m args below meth c E ls H locs hl hR hf
  exact lv_null E.1 E.2.1 d (k p l e s m args below meth c E ls H locs hl hR hf)
theorem r_lconst {n : Fin 2} {v : Int64} (d : decode mi.2.1 pc = .ok (.lconst n, 1)) (h : Int64.ofNat (n : Nat) = v := by rfl) (k : SWG G mi R Qf (pc + 1) L (.long v :: st) M kc ks) : SWG G mi R Qf pc L st M kc ks := by
  intro p l e s m args below meth c E ls H locs hl hR hf
  exact lv_lconst E.1 E.2.1 d h (k p l e s m args below meth c E ls H locs hl hR hf)
theorem r_iload_n {i : Fin 4} {x : Int32} (d : decode mi.2.1 pc = .ok (.iload_n i, 1)) (h : lk L i = some (.int x)) (k : SWG G mi R Qf (pc + 1) L (.int x :: st) M kc ks) : SWG G mi R Qf pc L st M kc ks := by
  intro p l e s m args below meth c E ls H locs hl hR hf
  exact lv_iload_n E.1 E.2.1 d rfl (hl.2.2 _ _ h) (k p l e s m args below meth c E ls H locs hl hR hf)
theorem r_iload {i : Nat} {x : Int32} (d : decode mi.2.1 pc = .ok (.iload i, 2)) (h : lk L i = some (.int x)) (k : SWG G mi R Qf (pc + 2) L (.int x :: st) M kc ks) : SWG G mi R Qf pc L st M kc ks := by
  intro p l e s m args below meth c E ls H locs hl hR hf
  exact lv_iload E.1 E.2.1 d (hl.2.2 _ _ h) (k p l e s m args below meth c E ls H locs hl hR hf)
theorem r_aload_n {i : Fin 4} {x : Nat} (d : decode mi.2.1 pc = .ok (.aload_n i, 1)) (h : lk L i = some (.ref x)) (k : SWG G mi R Qf (pc + 1) L (.ref x :: st) M kc ks) : SWG G mi R Qf pc L st M kc ks := by
  intro p l e s m args below meth c E ls H locs hl hR hf
  exact lv_aload_n E.1 E.2.1 d rfl (hl.2.2 _ _ h) (k p l e s m args below meth c E ls H locs hl hR hf)
theorem r_aload {i : Nat} {x : Nat} (d : decode mi.2.1 pc = .ok (.aload i, 2)) (h : lk L i = some (.ref x)) (k : SWG G mi R Qf (pc + 2) L (.ref x :: st) M kc ks) : SWG G mi R Qf pc L st M kc ks := by
  intro p l e s m args below meth c E ls H locs hl hR hf
  exact lv_aload E.1 E.2.1 d (hl.2.2 _ _ h) (k p l e s m args below meth c E ls H locs hl hR hf)
/-- a reference or null -/
theorem r_aload_nN {i : Fin 4} (d : decode mi.2.1 pc = .ok (.aload_n i, 1)) (h : lk L i = some .null) (k : SWG G mi R Qf (pc + 1) L (.null :: st) M kc ks) : SWG G mi R Qf pc L st M kc ks := by
  intro p l e s m args below meth c E ls H locs hl hR hf
  exact lv_aload_nN E.1 E.2.1 d rfl (hl.2.2 _ _ h) (k p l e s m args below meth c E ls H locs hl hR hf)
theorem r_aloadN {i : Nat} (d : decode mi.2.1 pc = .ok (.aload i, 2)) (h : lk L i = some .null) (k : SWG G mi R Qf (pc + 2) L (.null :: st) M kc ks) : SWG G mi R Qf pc L st M kc ks := by
  intro p l e s m args below meth c E ls H locs hl hR hf
  exact lv_aloadN E.1 E.2.1 d (hl.2.2 _ _ h) (k p l e s m args below meth c E ls H locs hl hR hf)
end ROWS
end SWX
end
section
section RW1
variable {G : GC} {mi : MI} {R : Room} {Qf : List Frame → Array Value → State → State → Prop} {pc : Nat} {L : List (Nat × Value)} {st : List Value} {M : Mem} {kc ks : Nat}

theorem r_istore_n {i : Fin 4} {x : Int32} (d : decode mi.2.1 pc = .ok (.istore_n i, 1)) (hn : (i : Nat) < mi.2.2.1 := by decide) (ho : ok1 L (i : Nat) = true := by rfl) (k : SWG G mi R Qf (pc + 1) (((i : Nat), .int x) :: L) st M kc ks) : SWG G mi R Qf pc L (.int x :: st) M kc ks := by
  intro p l e s m args below meth c E ls H locs hl hR hf
  have hexec := E.1
  have hb := E.2.1
  obtain ⟨ls', e', h'⟩ := lh_store1 (v := .int x) hl hn rfl ho
  intro T hT X
  obtain ⟨t, a, b⟩ := k p l e s m args below meth c E ls' H locs h' hR hf T hT X
  refine ⟨t, ?_, b⟩
  jvm_step X.here [X.here.top, ↓top_set X.here.top, hexec, hb, d, e']
  exact a
theorem r_istore {i : Nat} {x : Int32} (d : decode mi.2.1 pc = .ok (.istore i, 2)) (hn : i < mi.2.2.1 := by decide) (ho : ok1 L i = true := by rfl) (k : SWG G mi R Qf (pc + 2) ((i, .int x) :: L) st M kc ks) : SWG G mi R Qf pc L (.int x :: st) M kc ks := by
  intro p l e s m args below meth c E ls H locs hl hR hf
  have hexec := E.1
  have hb := E.2.1
  obtain ⟨ls', e', h'⟩ := lh_store1 (v := .int x) hl hn rfl ho
  intro T hT X
  obtain ⟨t, a, b⟩ := k p l e s m args below meth c E ls' H locs h' hR hf T hT X
  refine ⟨t, ?_, b⟩
  jvm_step X.here [X.here.top, ↓top_set X.here.top, hexec, hb, d, e']
  exact a
theorem r_astore_n {i : Fin 4} {x : Nat} (d : decode mi.2.1 pc = .ok (.astore_n i, 1)) (hn : (i : Nat) < mi.2.2.1 := by decide) (ho : ok1 L (i : Nat) = true := by rfl) (k : SWG G mi R Qf (pc + 1) (((i : Nat), .ref x) :: L) st M kc ks) : SWG G mi R Qf pc L (.ref x :: st) M kc ks := by
  intro p l e s m args below meth c E ls H locs hl hR hf
  have hexec := E.1
  have hb := E.2.1
  obtain ⟨ls', e', h'⟩ := lh_store1 (v := .ref x) hl hn rfl ho
  intro T hT X
  obtain ⟨t, a, b⟩ := k p l e s m args below meth c E ls' H locs h' hR hf T hT X
  refine ⟨t, ?_, b⟩
  jvm_step X.here [X.here.top, ↓top_set X.here.top, hexec, hb, d, e', Value.isRef]
  exact a
theorem r_astore {i : Nat} {x : Nat} (d : decode mi.2.1 pc = .ok (.astore i, 2)) (hn : i < mi.2.2.1 := by decide) (ho : ok1 L i = true := by rfl) (k : SWG G mi R Qf (pc + 2) ((i, .ref x) :: L) st M kc ks) : SWG G mi R Qf pc L (.ref x :: st) M kc ks := by
  intro p l e s m args below meth c E ls H locs hl hR hf
  have hexec := E.1
  have hb := E.2.1
  obtain ⟨ls', e', h'⟩ := lh_store1 (v := .ref x) hl hn rfl ho
  intro T hT X
  obtain ⟨t, a, b⟩ := k p l e s m args below meth c E ls' H locs h' hR hf T hT X
  refine ⟨t, ?_, b⟩
  jvm_step X.here [X.here.top, ↓top_set X.here.top, hexec, hb, d, e', Value.isRef]
  exact a
theorem r_astore_nN {i : Fin 4}  (d : decode mi.2.1 pc = .ok (.astore_n i, 1)) (hn : (i : Nat) < mi.2.2.1 := by decide) (ho : ok1 L (i : Nat) = true := by rfl) (k : SWG G mi R Qf (pc + 1) (((i : Nat), .null) :: L) st M kc ks) : SWG G mi R Qf pc L (.null :: st) M kc ks := by
  intro p l e s m args below meth c E ls H locs hl hR hf
  have hexec := E.1
  have hb := E.2.1
  obtain ⟨ls', e', h'⟩ := lh_store1 (v := .null) hl hn rfl ho
  intro T hT X
  obtain ⟨t, a, b⟩ := k p l e s m args below meth c E ls' H locs h' hR hf T hT X
  refine ⟨t, ?_, b⟩
  jvm_step X.here [X.here.top, ↓top_set X.here.top, hexec, hb, d, e', Value.isRef]
  exact a
theorem r_astoreN {i : Nat}  (d : decode mi.2.1 pc = .ok (.astore i, 2)) (hn : i < mi.2.2.1 := by decide) (ho : ok1 L i = true := by rfl) (k : SWG G mi R Qf (pc + 2) ((i, .null) :: L) st M kc ks) : SWG G mi R Qf pc L (.null :: st) M kc ks := by
  intro p l e s m args below meth c E ls H locs hl hR hf
  have hexec := E.1
  have hb := E.2.1
  obtain ⟨ls', e', h'⟩ := lh_store1 (v := .null) hl hn rfl ho
  intro T hT X
  obtain ⟨t, a, b⟩ := k p l e s m args below meth c E ls' H locs h' hR hf T hT X
  refine ⟨t, ?_, b⟩
  jvm_step X.here [X.here.top, ↓top_set X.here.top, hexec, hb, d, e', Value.isRef]
  exact a
theorem r_fstore {i : Nat} {x : UInt32} (d : decode mi.2.1 pc = .ok (.fstore i, 2)) (hn : i < mi.2.2.1 := by decide) (ho : ok1 L i = true := by rfl) (k : SWG G mi R Qf (pc + 2) ((i, .float x) :: L) st M kc ks) : SWG G mi R Qf pc L (.float x :: st) M kc ks := by
  intro p l e s m args below meth c E ls H locs hl hR hf
  have hexec := E.1
  have hb := E.2.1
  obtain ⟨ls', e', h'⟩ := lh_store1 (v := .float x) hl hn rfl ho
  intro T hT X
  obtain ⟨t, a, b⟩ := k p l e s m args below meth c E ls' H locs h' hR hf T hT X
  refine ⟨t, ?_, b⟩
  jvm_step X.here [X.here.top, ↓top_set X.here.top, hexec, hb, d, e']
  exact a
theorem r_dstore {i : Nat} {x : UInt64} (d : decode mi.2.1 pc = .ok (.dstore i, 2)) (hn : i + 1 < mi.2.2.1 := by decide) (ho : ok1 L i = true := by rfl) (ho2 : lk L (i + 1) = none := by rfl) (k : SWG G mi R Qf (pc + 2) ((i, .double x) :: L) st M kc ks) : SWG G mi R Qf pc L (.double x :: st) M kc ks := by
  intro p l e s m args below meth c E ls H locs hl hR hf
  have hexec := E.1
  have hb := E.2.1
  obtain ⟨ls', e', h'⟩ := lh_store2 (v := .double x) hl hn rfl ho ho2
  intro T hT X
  obtain ⟨t, a, b⟩ := k p l e s m args below meth c E ls' H locs h' hR hf T hT X
  refine ⟨t, ?_, b⟩
  jvm_step X.here [X.here.top, ↓top_set X.here.top, hexec, hb, d, e']
  exact a
theorem r_iinc {i : Nat} {n z : Int} (d : decode mi.2.1 pc = .ok (.iinc i n, 3)) (h : lk L i = some (.int (iz z))) (hn : i < mi.2.2.1 := by decide) (ho : ok1 L i = true := by rfl) (k : SWG G mi R Qf (pc + 3) ((i, .int (iz (z + n))) :: L) st M kc ks) : SWG G mi R Qf pc L st M kc ks := by
  intro p l e s m args below meth c E ls H locs hl hR hf
  have hexec := E.1
  have hb := E.2.1
  have hg := hl.2.2 _ _ h
  obtain ⟨ls', e', h'⟩ := lh_store1 (v := .int (iz (z + n))) hl hn rfl ho
  rw [← iz_add] at e'
  have e'' : storeLocals ls i (.int (iz z + Int32.ofInt n)) = some ls' := e'
  intro T hT X
  obtain ⟨t, a, b⟩ := k p l e s m args below meth c E ls' H locs h' hR hf T hT X
  refine ⟨t, ?_, b⟩
  jvm_step X.here [X.here.top, ↓top_set X.here.top, hexec, hb, d, hg, e'']
  exact a
theorem r_fload {i : Nat} {x : UInt32} (d : decode mi.2.1 pc = .ok (.fload i, 2)) (h : lk L i = some (.float x)) (k : SWG G mi R Qf (pc + 2) L (.float x :: st) M kc ks) : SWG G mi R Qf pc L st M kc ks := by
  intro p l e s m args below meth c E ls H locs hl hR hf
  exact lv_fload E.1 E.2.1 d (hl.2.2 _ _ h) (k p l e s m args below meth c E ls H locs hl hR hf)
theorem r_dload {i : Nat} {x : UInt64} (d : decode mi.2.1 pc = .ok (.dload i, 2)) (h : lk L i = some (.double x)) (k : SWG G mi R Qf (pc + 2) L (.double x :: st) M kc ks) : SWG G mi R Qf pc L st M kc ks := by
  intro p l e s m args below meth c E ls H locs hl hR hf
  exact lv_dload E.1 E.2.1 d (hl.2.2 _ _ h) (k p l e s m args below meth c E ls H locs hl hR hf)
theorem r_iadd {a b : Int} (d : decode mi.2.1 pc = .ok (.iadd, 1)) (k : SWG G mi R Qf (pc + 1) L (.int (iz (a + b)) :: st) M kc ks) : SWG G mi R Qf pc L (.int (iz b) :: .int (iz a) :: st) M kc ks := by
  intro p l e s m args below meth c E ls H locs hl hR hf
  refine lv_iadd E.1 E.2.1 d ?_
  rw [iz_add]
  exact k p l e s m args below meth c E ls H locs hl hR hf
theorem r_isub {a b : Int} (d : decode mi.2.1 pc = .ok (.isub, 1)) (k : SWG G mi R Qf (pc + 1) L (.int (iz (a - b)) :: st) M kc ks) : SWG G mi R Qf pc L (.int (iz b) :: .int (iz a) :: st) M kc ks := by
  intro p l e s m args below meth c E ls H locs hl hR hf
  refine lv_isub E.1 E.2.1 d ?_
  rw [iz_sub]
  exact k p l e s m args below meth c E ls H locs hl hR hf
theorem r_imul {a b : Int} (d : decode mi.2.1 pc = .ok (.imul, 1)) (k : SWG G mi R Qf (pc + 1) L (.int (iz (a * b)) :: st) M kc ks) : SWG G mi R Qf pc L (.int (iz b) :: .int (iz a) :: st) M kc ks := by
  intro p l e s m args below meth c E ls H locs hl hR hf
  refine lv_imul E.1 E.2.1 d ?_
  rw [iz_mul]
  exact k p l e s m args below meth c E ls H locs hl hR hf
theorem iz_div {a b : Int} (ha : inR a) (hb : inR b) (h0 : 0 ≤ a) (h : 0 < b) : iz a / iz b = iz (a / b) := by
  have e : a.tdiv b = a / b := Int.tdiv_eq_ediv_of_nonneg h0
  obtain ⟨h1, h2⟩ := ha
  have h3 : 0 ≤ a / b := Int.ediv_nonneg h0 (by omega)
  have h4 : a / b ≤ a := Int.ediv_le_self b h0
  apply Int32.toInt_inj.mp
  rw [Int32.toInt_div, iz_toInt ⟨h1, h2⟩, iz_toInt hb, iz_toInt (by constructor <;> omega), e]
  first
    | (rw [Int.bmod_eq_of_le] <;> omega)
    | (unfold Int.bmod; omega)
theorem r_idiv {a b : Int} (d : decode mi.2.1 pc = .ok (.idiv, 1)) (ha : inR a := by (unfold inR; omega)) (hb : inR b := by (unfold inR; omega)) (h0 : 0 ≤ a := by omega) (h : 0 < b := by omega) (k : SWG G mi R Qf (pc + 1) L (.int (iz (a / b)) :: st) M kc ks) : SWG G mi R Qf pc L (.int (iz b) :: .int (iz a) :: st) M kc ks := by
  intro p l e s m args below meth c E ls H locs hl hR hf
  refine lv_idiv E.1 E.2.1 d (fun q => ?_) ?_
  · rw [iz_0, iz_inj hb (by constructor <;> omega)] at q; omega
  · rw [iz_div ha hb h0 h]
    exact k p l e s m args below meth c E ls H locs hl hR hf
theorem r_irem {a b : Int} (d : decode mi.2.1 pc = .ok (.irem, 1)) (ha : inR a := by (unfold inR; omega)) (hb : inR b := by (unfold inR; omega)) (h0 : 0 ≤ a := by omega) (h : 0 < b := by omega) (k : SWG G mi R Qf (pc + 1) L (.int (iz (a % b)) :: st) M kc ks) : SWG G mi R Qf pc L (.int (iz b) :: .int (iz a) :: st) M kc ks := by
  intro p l e s m args below meth c E ls H locs hl hR hf
  have e9 : a - a / b * b = a % b := by rw [Int.emod_def, Int.mul_comm]
  refine lv_irem E.1 E.2.1 d (fun q => ?_) ?_
  · rw [iz_0, iz_inj hb (by constructor <;> omega)] at q; omega
  · rw [iz_div ha hb h0 h, iz_mul, iz_sub, e9]
    exact k p l e s m args below meth c E ls H locs hl hR hf
theorem r_iand {x y v : Int32} (d : decode mi.2.1 pc = .ok (.iand, 1)) (hv : x &&& y = v) (k : SWG G mi R Qf (pc + 1) L (.int v :: st) M kc ks) : SWG G mi R Qf pc L (.int y :: .int x :: st) M kc ks := by
  intro p l e s m args below meth c E ls H locs hl hR hf
  subst hv
  exact lv_iand E.1 E.2.1 d (k p l e s m args below meth c E ls H locs hl hR hf)
theorem r_ior {x y v : Int32} (d : decode mi.2.1 pc = .ok (.ior, 1)) (hv : x ||| y = v) (k : SWG G mi R Qf (pc + 1) L (.int v :: st) M kc ks) : SWG G mi R Qf pc L (.int y :: .int x :: st) M kc ks := by
  intro p l e s m args below meth c E ls H locs hl hR hf
  subst hv
  exact lv_ior E.1 E.2.1 d (k p l e s m args below meth c E ls H locs hl hR hf)
theorem r_ixor {x y v : Int32} (d : decode mi.2.1 pc = .ok (.ixor, 1)) (hv : x ^^^ y = v) (k : SWG G mi R Qf (pc + 1) L (.int v :: st) M kc ks) : SWG G mi R Qf pc L (.int y :: .int x :: st) M kc ks := by
  intro p l e s m args below meth c E ls H locs hl hR hf
  subst hv
  exact lv_ixor E.1 E.2.1 d (k p l e s m args below meth c E ls H locs hl hR hf)
theorem r_ishl {x y v : Int32} (d : decode mi.2.1 pc = .ok (.ishl, 1)) (hv : x <<< (y &&& 31) = v) (k : SWG G mi R Qf (pc + 1) L (.int v :: st) M kc ks) : SWG G mi R Qf pc L (.int y :: .int x :: st) M kc ks := by
  intro p l e s m args below meth c E ls H locs hl hR hf
  subst hv
  exact lv_ishl E.1 E.2.1 d (k p l e s m args below meth c E ls H locs hl hR hf)
theorem r_ishr {x y v : Int32} (d : decode mi.2.1 pc = .ok (.ishr, 1)) (hv : x >>> (y &&& 31) = v) (k : SWG G mi R Qf (pc + 1) L (.int v :: st) M kc ks) : SWG G mi R Qf pc L (.int y :: .int x :: st) M kc ks := by
  intro p l e s m args below meth c E ls H locs hl hR hf
  subst hv
  exact lv_ishr E.1 E.2.1 d (k p l e s m args below meth c E ls H locs hl hR hf)
theorem r_ladd {x y : Int64} (d : decode mi.2.1 pc = .ok (.ladd, 1)) (k : SWG G mi R Qf (pc + 1) L (.long (x + y) :: st) M kc ks) : SWG G mi R Qf pc L (.long y :: .long x :: st) M kc ks := by
  intro p l e s m args below meth c E ls H locs hl hR hf
  exact lv_ladd E.1 E.2.1 d (k p l e s m args below meth c E ls H locs hl hR hf)
theorem r_i2l {x : Int32} {v : Int64} (d : decode mi.2.1 pc = .ok (.i2l, 1)) (hv : x.toInt64 = v) (k : SWG G mi R Qf (pc + 1) L (.long v :: st) M kc ks) : SWG G mi R Qf pc L (.int x :: st) M kc ks := by
  intro p l e s m args below meth c E ls H locs hl hR hf
  exact lv_i2l E.1 E.2.1 d hv (k p l e s m args below meth c E ls H locs hl hR hf)
theorem r_i2c {x v : Int32} (d : decode mi.2.1 pc = .ok (.i2c, 1)) (hv : (x.toUInt32 % 65536).toInt32 = v) (k : SWG G mi R Qf (pc + 1) L (.int v :: st) M kc ks) : SWG G mi R Qf pc L (.int x :: st) M kc ks := by
  intro p l e s m args below meth c E ls H locs hl hR hf
  exact lv_i2c E.1 E.2.1 d hv (k p l e s m args below meth c E ls H locs hl hR hf)
theorem r_i2f {x : Int32} (d : decode mi.2.1 pc = .ok (.i2f, 1)) (k : SWG G mi R Qf (pc + 1) L (.float (FP.i2f x) :: st) M kc ks) : SWG G mi R Qf pc L (.int x :: st) M kc ks := by
  intro p l e s m args below meth c E ls H locs hl hR hf
  exact lv_i2f E.1 E.2.1 d (k p l e s m args below meth c E ls H locs hl hR hf)
theorem r_i2d {x : Int32} (d : decode mi.2.1 pc = .ok (.i2d, 1)) (k : SWG G mi R Qf (pc + 1) L (.double (FP.i2d x) :: st) M kc ks) : SWG G mi R Qf pc L (.int x :: st) M kc ks := by
  intro p l e s m args below meth c E ls H locs hl hR hf
  exact lv_i2d E.1 E.2.1 d (k p l e s m args below meth c E ls H locs hl hR hf)
theorem r_fdiv {x y : UInt32} (d : decode mi.2.1 pc = .ok (.fdiv, 1)) (hne : vf_n32 (FP.fdiv x y)) (k : SWG G mi R Qf (pc + 1) L (.float (FP.fdiv x y) :: st) M kc ks) : SWG G mi R Qf pc L (.float y :: .float x :: st) M kc ks := by
  intro p l e s m args below meth c E ls H locs hl hR hf
  exact lv_fdiv E.1 E.2.1 d hne (k p l e s m args below meth c E ls H locs hl hR hf)
theorem r_ddiv {x y : UInt64} (d : decode mi.2.1 pc = .ok (.ddiv, 1)) (hne : vf_n64 (FP.ddiv x y)) (k : SWG G mi R Qf (pc + 1) L (.double (FP.ddiv x y) :: st) M kc ks) : SWG G mi R Qf pc L (.double y :: .double x :: st) M kc ks := by
  intro p l e s m args below meth c E ls H locs hl hR hf
  exact lv_ddiv E.1 E.2.1 d hne (k p l e s m args below meth c E ls H locs hl hR hf)
theorem r_f2d {x : UInt32} (d : decode mi.2.1 pc = .ok (.f2d, 1)) (hne : vf_n64 (FP.f2d x)) (k : SWG G mi R Qf (pc + 1) L (.double (FP.f2d x) :: st) M kc ks) : SWG G mi R Qf pc L (.float x :: st) M kc ks := by
  intro p l e s m args below meth c E ls H locs hl hR hf
  exact lv_f2d E.1 E.2.1 d hne (k p l e s m args below meth c E ls H locs hl hR hf)
theorem r_dcmp {x y : UInt64} {op : CmpOp} (d : decode mi.2.1 pc = .ok (.dcmp op, 1)) (k : SWG G mi R Qf (pc + 1) L (.int (Op.cmpValue (FP.dcmp x y) op) :: st) M kc ks) : SWG G mi R Qf pc L (.double y :: .double x :: st) M kc ks := by
  intro p l e s m args below meth c E ls H locs hl hR hf
  exact lv_dcmp E.1 E.2.1 d (k p l e s m args below meth c E ls H locs hl hR hf)
theorem r_fcmp {x y : UInt32} {op : CmpOp} (d : decode mi.2.1 pc = .ok (.fcmp op, 1)) (k : SWG G mi R Qf (pc + 1) L (.int (Op.cmpValue (FP.fcmp x y) op) :: st) M kc ks) : SWG G mi R Qf pc L (.float y :: .float x :: st) M kc ks := by
  intro p l e s m args below meth c E ls H locs hl hR hf
  exact lv_fcmp E.1 E.2.1 d (k p l e s m args below meth c E ls H locs hl hR hf)
theorem r_lcmp {x y : Int64} (d : decode mi.2.1 pc = .ok (.lcmp, 1)) (k : SWG G mi R Qf (pc + 1) L (.int (lg_cmp x y) :: st) M kc ks) : SWG G mi R Qf pc L (.long y :: .long x :: st) M kc ks := by
  intro p l e s m args below meth c E ls H locs hl hR hf
  exact W.lcmp E.1 E.2.1 d (k p l e s m args below meth c E ls H locs hl hR hf)
theorem r_dup {v : Value} (d : decode mi.2.1 pc = .ok (.dup, 1)) (hv : v.category = 1 := by rfl) (k : SWG G mi R Qf (pc + 1) L (v :: v :: st) M kc ks) : SWG G mi R Qf pc L (v :: st) M kc ks := by
  intro p l e s m args below meth c E ls H locs hl hR hf
  exact lv_dup E.1 E.2.1 d hv (k p l e s m args below meth c E ls H locs hl hR hf)
theorem r_pop {v : Value} (d : decode mi.2.1 pc = .ok (.pop, 1)) (hv : v.category = 1 := by rfl) (k : SWG G mi R Qf (pc + 1) L st M kc ks) : SWG G mi R Qf pc L (v :: st) M kc ks := by
  intro p l e s m args below meth c E ls H locs hl hR hf
  exact lv_pop E.1 E.2.1 d hv (k p l e s m args below meth c E ls H locs hl hR hf)
theorem r_dup2 {v w : Value} (d : decode mi.2.1 pc = .ok (.dup2, 1)) (hv : v.category = 1 := by rfl) (hw : w.category = 1 := by rfl) (k : SWG G mi R Qf (pc + 1) L (v :: w :: v :: w :: st) M kc ks) : SWG G mi R Qf pc L (v :: w :: st) M kc ks := by
  intro p l e s m args below meth c E ls H locs hl hR hf
  exact lv_dup2_11 E.1 E.2.1 d hv hw (k p l e s m args below meth c E ls H locs hl hR hf)
theorem r_dup_x1 {v w : Value} (d : decode mi.2.1 pc = .ok (.dup_x1, 1)) (hv : v.category = 1 := by rfl) (hw : w.category = 1 := by rfl) (k : SWG G mi R Qf (pc + 1) L (v :: w :: v :: st) M kc ks) : SWG G mi R Qf pc L (v :: w :: st) M kc ks := by
  intro p l e s m args below meth c E ls H locs hl hR hf
  exact lv_dup_x1 E.1 E.2.1 d hv hw (k p l e s m args below meth c E ls H locs hl hR hf)
theorem r_goto {off : Int} {tgt : Nat} (d : decode mi.2.1 pc = .ok (.goto off, 3)) (ht : (pc : Int) + off = (tgt : Int)) (k : SWG G mi R Qf tgt L st M kc ks) : SWG G mi R Qf pc L st M kc ks := by
  intro p l e s m args below meth c E ls H locs hl hR hf
  exact lv_goto E.1 E.2.1 d ht (k p l e s m args below meth c E ls H locs hl hR hf)
theorem r_icmp_eq {a b : Int} {off : Int} {tgt : Nat} (d : decode mi.2.1 pc = .ok (.if_icmp .eq off, 3)) (ht : (pc : Int) + off = (tgt : Int)) (ha : inR a := by (unfold inR; omega)) (hb : inR b := by (unfold inR; omega)) (kt : a = b → SWG G mi R Qf tgt L st M kc ks) (kf : ¬ a = b → SWG G mi R Qf (pc + 3) L st M kc ks) : SWG G mi R Qf pc L (.int (iz b) :: .int (iz a) :: st) M kc ks := by
  intro p l e s m args below meth c E ls H locs hl hR hf
  have hb0 : inR 0 := by constructor <;> omega
  refine lv_icmp_eq E.1 E.2.1 d ht (fun q => kt ?_ p l e s m args below meth c E ls H locs hl hR hf) (fun q => kf ?_ p l e s m args below meth c E ls H locs hl hR hf)
  · first | (rw [iz_inj ha hb] at q; omega) | (rw [iz_lt ha hb] at q; omega) | (rw [iz_le ha hb] at q; omega) | (rw [iz_lt hb ha] at q; omega) | (rw [iz_le hb ha] at q; omega) | (have q' : iz b < iz a := q; rw [iz_lt hb ha] at q'; omega) | (have q' : iz b ≤ iz a := q; rw [iz_le hb ha] at q'; omega)
  · first | (rw [iz_inj ha hb] at q; omega) | (rw [iz_lt ha hb] at q; omega) | (rw [iz_le ha hb] at q; omega) | (rw [iz_lt hb ha] at q; omega) | (rw [iz_le hb ha] at q; omega) | (have q' : ¬ iz b < iz a := q; rw [iz_lt hb ha] at q'; omega) | (have q' : ¬ iz b ≤ iz a := q; rw [iz_le hb ha] at q'; omega)
theorem r_if_eq {a : Int} {off : Int} {tgt : Nat} (d : decode mi.2.1 pc = .ok (.ifCond .eq off, 3)) (ht : (pc : Int) + off = (tgt : Int)) (ha : inR a := by (unfold inR; omega)) (kt : a = 0 → SWG G mi R Qf tgt L st M kc ks) (kf : ¬ a = 0 → SWG G mi R Qf (pc + 3) L st M kc ks) : SWG G mi R Qf pc L (.int (iz a) :: st) M kc ks := by
  intro p l e s m args below meth c E ls H locs hl hR hf
  have hb0 : inR 0 := by constructor <;> omega
  refine lv_if_eq E.1 E.2.1 d ht (fun q => kt ?_ p l e s m args below meth c E ls H locs hl hR hf) (fun q => kf ?_ p l e s m args below meth c E ls H locs hl hR hf)
  · first | (rw [iz_0, iz_inj ha hb0] at q; omega) | (rw [iz_0, iz_lt ha hb0] at q; omega) | (rw [iz_0, iz_le ha hb0] at q; omega) | (rw [iz_0, iz_lt hb0 ha] at q; omega) | (rw [iz_0, iz_le hb0 ha] at q; omega) | (have q' : iz 0 < iz a := q; rw [iz_lt hb0 ha] at q'; omega) | (have q' : iz 0 ≤ iz a := q; rw [iz_le hb0 ha] at q'; omega)
  · first | (rw [iz_0, iz_inj ha hb0] at q; omega) | (rw [iz_0, iz_lt ha hb0] at q; omega) | (rw [iz_0, iz_le ha hb0] at q; omega) | (rw [iz_0, iz_lt hb0 ha] at q; omega) | (rw [iz_0, iz_le hb0 ha] at q; omega) | (have q' : ¬ iz 0 < iz a := q; rw [iz_lt hb0 ha] at q'; omega) | (have q' : ¬ iz 0 ≤ iz a := q; rw [iz_le hb0 ha] at q'; omega)
theorem r_icmp_ne {a b : Int} {off : Int} {tgt : Nat} (d : decode mi.2.1 pc = .ok (.if_icmp .ne off, 3)) (ht : (pc : Int) + off = (tgt : Int)) (ha : inR a := by (unfold inR; omega)) (hb : inR b := by (unfold inR; omega)) (kt : ¬ a = b → SWG G mi R Qf tgt L st M kc ks) (kf : a = b → SWG G mi R Qf (pc + 3) L st M kc ks) : SWG G mi R Qf pc L (.int (iz b) :: .int (iz a) :: st) M kc ks := by
  intro p l e s m args below meth c E ls H locs hl hR hf
  have hb0 : inR 0 := by constructor <;> omega
  refine lv_icmp_ne E.1 E.2.1 d ht (fun q => kt ?_ p l e s m args below meth c E ls H locs hl hR hf) (fun q => kf ?_ p l e s m args below meth c E ls H locs hl hR hf)
  · first | (rw [iz_inj ha hb] at q; omega) | (rw [iz_lt ha hb] at q; omega) | (rw [iz_le ha hb] at q; omega) | (rw [iz_lt hb ha] at q; omega) | (rw [iz_le hb ha] at q; omega) | (have q' : iz b < iz a := q; rw [iz_lt hb ha] at q'; omega) | (have q' : iz b ≤ iz a := q; rw [iz_le hb ha] at q'; omega)
  · first | (rw [iz_inj ha hb] at q; omega) | (rw [iz_lt ha hb] at q; omega) | (rw [iz_le ha hb] at q; omega) | (rw [iz_lt hb ha] at q; omega) | (rw [iz_le hb ha] at q; omega) | (have q' : ¬ iz b < iz a := q; rw [iz_lt hb ha] at q'; omega) | (have q' : ¬ iz b ≤ iz a := q; rw [iz_le hb ha] at q'; omega)
theorem r_if_ne {a : Int} {off : Int} {tgt : Nat} (d : decode mi.2.1 pc = .ok (.ifCond .ne off, 3)) (ht : (pc : Int) + off = (tgt : Int)) (ha : inR a := by (unfold inR; omega)) (kt : ¬ a = 0 → SWG G mi R Qf tgt L st M kc ks) (kf : a = 0 → SWG G mi R Qf (pc + 3) L st M kc ks) : SWG G mi R Qf pc L (.int (iz a) :: st) M kc ks := by
  intro p l e s m args below meth c E ls H locs hl hR hf
  have hb0 : inR 0 := by constructor <;> omega
  refine lv_if_ne E.1 E.2.1 d ht (fun q => kt ?_ p l e s m args below meth c E ls H locs hl hR hf) (fun q => kf ?_ p l e s m args below meth c E ls H locs hl hR hf)
  · first | (rw [iz_0, iz_inj ha hb0] at q; omega) | (rw [iz_0, iz_lt ha hb0] at q; omega) | (rw [iz_0, iz_le ha hb0] at q; omega) | (rw [iz_0, iz_lt hb0 ha] at q; omega) | (rw [iz_0, iz_le hb0 ha] at q; omega) | (have q' : iz 0 < iz a := q; rw [iz_lt hb0 ha] at q'; omega) | (have q' : iz 0 ≤ iz a := q; rw [iz_le hb0 ha] at q'; omega)
  · first | (rw [iz_0, iz_inj ha hb0] at q; omega) | (rw [iz_0, iz_lt ha hb0] at q; omega) | (rw [iz_0, iz_le ha hb0] at q; omega) | (rw [iz_0, iz_lt hb0 ha] at q; omega) | (rw [iz_0, iz_le hb0 ha] at q; omega) | (have q' : ¬ iz 0 < iz a := q; rw [iz_lt hb0 ha] at q'; omega) | (have q' : ¬ iz 0 ≤ iz a := q; rw [iz_le hb0 ha] at q'; omega)
theorem r_icmp_lt {a b : Int} {off : Int} {tgt : Nat} (d : decode mi.2.1 pc = .ok (.if_icmp .lt off, 3)) (ht : (pc : Int) + off = (tgt : Int)) (ha : inR a := by (unfold inR; omega)) (hb : inR b := by (unfold inR; omega)) (kt : a < b → SWG G mi R Qf tgt L st M kc ks) (kf : ¬ a < b → SWG G mi R Qf (pc + 3) L st M kc ks) : SWG G mi R Qf pc L (.int (iz b) :: .int (iz a) :: st) M kc ks := by
  intro p l e s m args below meth c E ls H locs hl hR hf
  have hb0 : inR 0 := by constructor <;> omega
  refine lv_icmp_lt E.1 E.2.1 d ht (fun q => kt ?_ p l e s m args below meth c E ls H locs hl hR hf) (fun q => kf ?_ p l e s m args below meth c E ls H locs hl hR hf)
  · first | (rw [iz_inj ha hb] at q; omega) | (rw [iz_lt ha hb] at q; omega) | (rw [iz_le ha hb] at q; omega) | (rw [iz_lt hb ha] at q; omega) | (rw [iz_le hb ha] at q; omega) | (have q' : iz b < iz a := q; rw [iz_lt hb ha] at q'; omega) | (have q' : iz b ≤ iz a := q; rw [iz_le hb ha] at q'; omega)
  · first | (rw [iz_inj ha hb] at q; omega) | (rw [iz_lt ha hb] at q; omega) | (rw [iz_le ha hb] at q; omega) | (rw [iz_lt hb ha] at q; omega) | (rw [iz_le hb ha] at q; omega) | (have q' : ¬ iz b < iz a := q; rw [iz_lt hb ha] at q'; omega) | (have q' : ¬ iz b ≤ iz a := q; rw [iz_le hb ha] at q'; omega)
theorem r_if_lt {a : Int} {off : Int} {tgt : Nat} (d : decode mi.2.1 pc = .ok (.ifCond .lt off, 3)) (ht : (pc : Int) + off = (tgt : Int)) (ha : inR a := by (unfold inR; omega)) (kt : a < 0 → SWG G mi R Qf tgt L st M kc ks) (kf : ¬ a < 0 → SWG G mi R Qf (pc + 3) L st M kc ks) : SWG G mi R Qf pc L (.int (iz a) :: st) M kc ks := by
  intro p l e s m args below meth c E ls H locs hl hR hf
  have hb0 : inR 0 := by constructor <;> omega
  refine lv_if_lt E.1 E.2.1 d ht (fun q => kt ?_ p l e s m args below meth c E ls H locs hl hR hf) (fun q => kf ?_ p l e s m args below meth c E ls H locs hl hR hf)
  · first | (rw [iz_0, iz_inj ha hb0] at q; omega) | (rw [iz_0, iz_lt ha hb0] at q; omega) | (rw [iz_0, iz_le ha hb0] at q; omega) | (rw [iz_0, iz_lt hb0 ha] at q; omega) | (rw [iz_0, iz_le hb0 ha] at q; omega) | (have q' : iz 0 < iz a := q; rw [iz_lt hb0 ha] at q'; omega) | (have q' : iz 0 ≤ iz a := q; rw [iz_le hb0 ha] at q'; omega)
  · first | (rw [iz_0, iz_inj ha hb0] at q; omega) | (rw [iz_0, iz_lt ha hb0] at q; omega) | (rw [iz_0, iz_le ha hb0] at q; omega) | (rw [iz_0, iz_lt hb0 ha] at q; omega) | (rw [iz_0, iz_le hb0 ha] at q; omega) | (have q' : ¬ iz 0 < iz a := q; rw [iz_lt hb0 ha] at q'; omega) | (have q' : ¬ iz 0 ≤ iz a := q; rw [iz_le hb0 ha] at q'; omega)
theorem r_icmp_ge {a b : Int} {off : Int} {tgt : Nat} (d : decode mi.2.1 pc = .ok (.if_icmp .ge off, 3)) (ht : (pc : Int) + off = (tgt : Int)) (ha : inR a := by (unfold inR; omega)) (hb : inR b := by (unfold inR; omega)) (kt : a ≥ b → SWG G mi R Qf tgt L st M kc ks) (kf : ¬ a ≥ b → SWG G mi R Qf (pc + 3) L st M kc ks) : SWG G mi R Qf pc L (.int (iz b) :: .int (iz a) :: st) M kc ks := by
  intro p l e s m args below meth c E ls H locs hl hR hf
  have hb0 : inR 0 := by constructor <;> omega
  refine lv_icmp_ge E.1 E.2.1 d ht (fun q => kt ?_ p l e s m args below meth c E ls H locs hl hR hf) (fun q => kf ?_ p l e s m args below meth c E ls H locs hl hR hf)
  · first | (rw [iz_inj ha hb] at q; omega) | (rw [iz_lt ha hb] at q; omega) | (rw [iz_le ha hb] at q; omega) | (rw [iz_lt hb ha] at q; omega) | (rw [iz_le hb ha] at q; omega) | (have q' : iz b < iz a := q; rw [iz_lt hb ha] at q'; omega) | (have q' : iz b ≤ iz a := q; rw [iz_le hb ha] at q'; omega)
  · first | (rw [iz_inj ha hb] at q; omega) | (rw [iz_lt ha hb] at q; omega) | (rw [iz_le ha hb] at q; omega) | (rw [iz_lt hb ha] at q; omega) | (rw [iz_le hb ha] at q; omega) | (have q' : ¬ iz b < iz a := q; rw [iz_lt hb ha] at q'; omega) | (have q' : ¬ iz b ≤ iz a := q; rw [iz_le hb ha] at q'; omega)
theorem r_if_ge {a : Int} {off : Int} {tgt : Nat} (d : decode mi.2.1 pc = .ok (.ifCond .ge off, 3)) (ht : (pc : Int) + off = (tgt : Int)) (ha : inR a := by (unfold inR; omega)) (kt : a ≥ 0 → SWG G mi R Qf tgt L st M kc ks) (kf : ¬ a ≥ 0 → SWG G mi R Qf (pc + 3) L st M kc ks) : SWG G mi R Qf pc L (.int (iz a) :: st) M kc ks := by
  intro p l e s m args below meth c E ls H locs hl hR hf
  have hb0 : inR 0 := by constructor <;> omega
  refine lv_if_ge E.1 E.2.1 d ht (fun q => kt ?_ p l e s m args below meth c E ls H locs hl hR hf) (fun q => kf ?_ p l e s m args below meth c E ls H locs hl hR hf)
  · first | (rw [iz_0, iz_inj ha hb0] at q; omega) | (rw [iz_0, iz_lt ha hb0] at q; omega) | (rw [iz_0, iz_le ha hb0] at q; omega) | (rw [iz_0, iz_lt hb0 ha] at q; omega) | (rw [iz_0, iz_le hb0 ha] at q; omega) | (have q' : iz 0 < iz a := q; rw [iz_lt hb0 ha] at q'; omega) | (have q' : iz 0 ≤ iz a := q; rw [iz_le hb0 ha] at q'; omega)
  · first | (rw [iz_0, iz_inj ha hb0] at q; omega) | (rw [iz_0, iz_lt ha hb0] at q; omega) | (rw [iz_0, iz_le ha hb0] at q; omega) | (rw [iz_0, iz_lt hb0 ha] at q; omega) | (rw [iz_0, iz_le hb0 ha] at q; omega) | (have q' : ¬ iz 0 < iz a := q; rw [iz_lt hb0 ha] at q'; omega) | (have q' : ¬ iz 0 ≤ iz a := q; rw [iz_le hb0 ha] at q'; omega)
theorem r_icmp_gt {a b : Int} {off : Int} {tgt : Nat} (d : decode mi.2.1 pc = .ok (.if_icmp .gt off, 3)) (ht : (pc : Int) + off = (tgt : Int)) (ha : inR a := by (unfold inR; omega)) (hb : inR b := by (unfold inR; omega)) (kt : a > b → SWG G mi R Qf tgt L st M kc ks) (kf : ¬ a > b → SWG G mi R Qf (pc + 3) L st M kc ks) : SWG G mi R Qf pc L (.int (iz b) :: .int (iz a) :: st) M kc ks := by
  intro p l e s m args below meth c E ls H locs hl hR hf
  have hb0 : inR 0 := by constructor <;> omega
  refine lv_icmp_gt E.1 E.2.1 d ht (fun q => kt ?_ p l e s m args below meth c E ls H locs hl hR hf) (fun q => kf ?_ p l e s m args below meth c E ls H locs hl hR hf)
  · first | (rw [iz_inj ha hb] at q; omega) | (rw [iz_lt ha hb] at q; omega) | (rw [iz_le ha hb] at q; omega) | (rw [iz_lt hb ha] at q; omega) | (rw [iz_le hb ha] at q; omega) | (have q' : iz b < iz a := q; rw [iz_lt hb ha] at q'; omega) | (have q' : iz b ≤ iz a := q; rw [iz_le hb ha] at q'; omega)
  · first | (rw [iz_inj ha hb] at q; omega) | (rw [iz_lt ha hb] at q; omega) | (rw [iz_le ha hb] at q; omega) | (rw [iz_lt hb ha] at q; omega) | (rw [iz_le hb ha] at q; omega) | (have q' : ¬ iz b < iz a := q; rw [iz_lt hb ha] at q'; omega) | (have q' : ¬ iz b ≤ iz a := q; rw [iz_le hb ha] at q'; omega)
theorem r_if_gt {a : Int} {off : Int} {tgt : Nat} (d : decode mi.2.1 pc = .ok (.ifCond .gt off, 3)) (ht : (pc : Int) + off = (tgt : Int)) (ha : inR a := by (unfold inR; omega)) (kt : a > 0 → SWG G mi R Qf tgt L st M kc ks) (kf : ¬ a > 0 → SWG G mi R Qf (pc + 3) L st M kc ks) : SWG G mi R Qf pc L (.int (iz a) :: st) M kc ks := by
  intro p l e s m args below meth c E ls H locs hl hR hf
  have hb0 : inR 0 := by constructor <;> omega
  refine lv_if_gt E.1 E.2.1 d ht (fun q => kt ?_ p l e s m args below meth c E ls H locs hl hR hf) (fun q => kf ?_ p l e s m args below meth c E ls H locs hl hR hf)
  · first | (rw [iz_0, iz_inj ha hb0] at q; omega) | (rw [iz_0, iz_lt ha hb0] at q; omega) | (rw [iz_0, iz_le ha hb0] at q; omega) | (rw [iz_0, iz_lt hb0 ha] at q; omega) | (rw [iz_0, iz_le hb0 ha] at q; omega) | (have q' : iz 0 < iz a := q; rw [iz_lt hb0 ha] at q'; omega) | (have q' : iz 0 ≤ iz a := q; rw [iz_le hb0 ha] at q'; omega)
  · first | (rw [iz_0, iz_inj ha hb0] at q; omega) | (rw [iz_0, iz_lt ha hb0] at q; omega) | (rw [iz_0, iz_le ha hb0] at q; omega) | (rw [iz_0, iz_lt hb0 ha] at q; omega) | (rw [iz_0, iz_le hb0 ha] at q; omega) | (have q' : ¬ iz 0 < iz a := q; rw [iz_lt hb0 ha] at q'; omega) | (have q' : ¬ iz 0 ≤ iz a := q; rw [iz_le hb0 ha] at q'; omega)
theorem r_icmp_le {a b : Int} {off : Int} {tgt : Nat} (d : decode mi.2.1 pc = .ok (.if_icmp .le off, 3)) (ht : (pc : Int) + off = (tgt : Int)) (ha : inR a := by (unfold inR; omega)) (hb : inR b := by (unfold inR; omega)) (kt : a ≤ b → SWG G mi R Qf tgt L st M kc ks) (kf : ¬ a ≤ b → SWG G mi R Qf (pc + 3) L st M kc ks) : SWG G mi R Qf pc L (.int (iz b) :: .int (iz a) :: st) M kc ks := by
  intro p l e s m args below meth c E ls H locs hl hR hf
  have hb0 : inR 0 := by constructor <;> omega
  refine lv_icmp_le E.1 E.2.1 d ht (fun q => kt ?_ p l e s m args below meth c E ls H locs hl hR hf) (fun q => kf ?_ p l e s m args below meth c E ls H locs hl hR hf)
  · first | (rw [iz_inj ha hb] at q; omega) | (rw [iz_lt ha hb] at q; omega) | (rw [iz_le ha hb] at q; omega) | (rw [iz_lt hb ha] at q; omega) | (rw [iz_le hb ha] at q; omega) | (have q' : iz b < iz a := q; rw [iz_lt hb ha] at q'; omega) | (have q' : iz b ≤ iz a := q; rw [iz_le hb ha] at q'; omega)
  · first | (rw [iz_inj ha hb] at q; omega) | (rw [iz_lt ha hb] at q; omega) | (rw [iz_le ha hb] at q; omega) | (rw [iz_lt hb ha] at q; omega) | (rw [iz_le hb ha] at q; omega) | (have q' : ¬ iz b < iz a := q; rw [iz_lt hb ha] at q'; omega) | (have q' : ¬ iz b ≤ iz a := q; rw [iz_le hb ha] at q'; omega)
theorem r_if_le {a : Int} {off : Int} {tgt : Nat} (d : decode mi.2.1 pc = .ok (.ifCond .le off, 3)) (ht : (pc : Int) + off = (tgt : Int)) (ha : inR a := by (unfold inR; omega)) (kt : a ≤ 0 → SWG G mi R Qf tgt L st M kc ks) (kf : ¬ a ≤ 0 → SWG G mi R Qf (pc + 3) L st M kc ks) : SWG G mi R Qf pc L (.int (iz a) :: st) M kc ks := by
  intro p l e s m args below meth c E ls H locs hl hR hf
  have hb0 : inR 0 := by constructor <;> omega
  refine lv_if_le E.1 E.2.1 d ht (fun q => kt ?_ p l e s m args below meth c E ls H locs hl hR hf) (fun q => kf ?_ p l e s m args below meth c E ls H locs hl hR hf)
  · first | (rw [iz_0, iz_inj ha hb0] at q; omega) | (rw [iz_0, iz_lt ha hb0] at q; omega) | (rw [iz_0, iz_le ha hb0] at q; omega) | (rw [iz_0, iz_lt hb0 ha] at q; omega) | (rw [iz_0, iz_le hb0 ha] at q; omega) | (have q' : iz 0 < iz a := q; rw [iz_lt hb0 ha] at q'; omega) | (have q' : iz 0 ≤ iz a := q; rw [iz_le hb0 ha] at q'; omega)
  · first | (rw [iz_0, iz_inj ha hb0] at q; omega) | (rw [iz_0, iz_lt ha hb0] at q; omega) | (rw [iz_0, iz_le ha hb0] at q; omega) | (rw [iz_0, iz_lt hb0 ha] at q; omega) | (rw [iz_0, iz_le hb0 ha] at q; omega) | (have q' : ¬ iz 0 < iz a := q; rw [iz_lt hb0 ha] at q'; omega) | (have q' : ¬ iz 0 ≤ iz a := q; rw [iz_le hb0 ha] at q'; omega)
theorem r_bif_eq {b : Bool} {off : Int} {tgt : Nat} (d : decode mi.2.1 pc = .ok (.ifCond .eq off, 3)) (ht : (pc : Int) + off = (tgt : Int)) (kt : b = false → SWG G mi R Qf tgt L st M kc ks) (kf : b = true → SWG G mi R Qf (pc + 3) L st M kc ks) : SWG G mi R Qf pc L (.int (bz b) :: st) M kc ks := by
  intro p l e s m args below meth c E ls H locs hl hR hf
  refine lv_if_eq E.1 E.2.1 d ht (fun q => kt ?_ p l e s m args below meth c E ls H locs hl hR hf) (fun q => kf ?_ p l e s m args below meth c E ls H locs hl hR hf) <;> (rw [bz_1] at q; cases b <;> simp_all)
theorem r_bif_ne {b : Bool} {off : Int} {tgt : Nat} (d : decode mi.2.1 pc = .ok (.ifCond .ne off, 3)) (ht : (pc : Int) + off = (tgt : Int)) (kt : b = true → SWG G mi R Qf tgt L st M kc ks) (kf : b = false → SWG G mi R Qf (pc + 3) L st M kc ks) : SWG G mi R Qf pc L (.int (bz b) :: st) M kc ks := by
  intro p l e s m args below meth c E ls H locs hl hR hf
  refine lv_if_ne E.1 E.2.1 d ht (fun q => kt ?_ p l e s m args below meth c E ls H locs hl hR hf) (fun q => kf ?_ p l e s m args below meth c E ls H locs hl hR hf) <;> (rw [bz_1] at q; cases b <;> simp_all)
theorem r_acmp_ne {x y : Nat} {off : Int} {tgt : Nat} (d : decode mi.2.1 pc = .ok (.if_acmp .ne off, 3)) (ht : (pc : Int) + off = (tgt : Int)) (kt : x ≠ y → SWG G mi R Qf tgt L st M kc ks) (kf : x = y → SWG G mi R Qf (pc + 3) L st M kc ks) : SWG G mi R Qf pc L (.ref y :: .ref x :: st) M kc ks := by
  intro p l e s m args below meth c E ls H locs hl hR hf
  exact lv_acmp_ne (rx := some x) (ry := some y) E.1 E.2.1 d ht (fun q => kt (fun z => q (by rw [z])) p l e s m args below meth c E ls H locs hl hR hf) (fun q => kf (Option.some.inj q) p l e s m args below meth c E ls H locs hl hR hf)
theorem r_acmp_eq {x y : Nat} {off : Int} {tgt : Nat} (d : decode mi.2.1 pc = .ok (.if_acmp .eq off, 3)) (ht : (pc : Int) + off = (tgt : Int)) (kt : x = y → SWG G mi R Qf tgt L st M kc ks) (kf : x ≠ y → SWG G mi R Qf (pc + 3) L st M kc ks) : SWG G mi R Qf pc L (.ref y :: .ref x :: st) M kc ks := by
  intro p l e s m args below meth c E ls H locs hl hR hf
  exact lv_acmp_eq (rx := some x) (ry := some y) E.1 E.2.1 d ht (fun q => kt (Option.some.inj q) p l e s m args below meth c E ls H locs hl hR hf) (fun q => kf (fun z => q (by rw [z])) p l e s m args below meth c E ls H locs hl hR hf)
theorem r_ifnonnull {x : Nat} {off : Int} {tgt : Nat} (d : decode mi.2.1 pc = .ok (.ifnonnull off, 3)) (ht : (pc : Int) + off = (tgt : Int)) (k : SWG G mi R Qf tgt L st M kc ks) : SWG G mi R Qf pc L (.ref x :: st) M kc ks := by
  intro p l e s m args below meth c E ls H locs hl hR hf
  exact lv_ifnonnull E.1 E.2.1 d ht (k p l e s m args below meth c E ls H locs hl hR hf)
theorem r_ifnonnullN {off : Int} (d : decode mi.2.1 pc = .ok (.ifnonnull off, 3)) (k : SWG G mi R Qf (pc + 3) L st M kc ks) : SWG G mi R Qf pc L (.null :: st) M kc ks := by
  intro p l e s m args below meth c E ls H locs hl hR hf
  exact lv_ifnonnullN E.1 E.2.1 d (k p l e s m args below meth c E ls H locs hl hR hf)
theorem r_ifnull {x : Nat} {off : Int} (d : decode mi.2.1 pc = .ok (.ifnull off, 3)) (k : SWG G mi R Qf (pc + 3) L st M kc ks) : SWG G mi R Qf pc L (.ref x :: st) M kc ks := by
  intro p l e s m args below meth c E ls H locs hl hR hf
  exact lv_ifnull E.1 E.2.1 d (k p l e s m args below meth c E ls H locs hl hR hf)
theorem r_ifnullN {off : Int} {tgt : Nat} (d : decode mi.2.1 pc = .ok (.ifnull off, 3)) (ht : (pc : Int) + off = (tgt : Int)) (k : SWG G mi R Qf tgt L st M kc ks) : SWG G mi R Qf pc L (.null :: st) M kc ks := by
  intro p l e s m args below meth c E ls H locs hl hR hf
  exact lv_ifnullN E.1 E.2.1 d ht (k p l e s m args below meth c E ls H locs hl hR hf)
end RW1
end
section
/-! Rows over the heap. -/
section RH0
variable {G : GC} {M M' : Mem} {H H' : Heap}
/-- one cell changes -/
theorem rel_upd (hR : Rel G M H) (a : Nat) (ha : gB G ≤ a) (hn : mN M' = mN M) (hc : mC M' = mC M) (hz : H'.size = H.size) (ho : ∀ q, q ≠ a → H'[q]? = H[q]?) (hcell : ∀ t z, mC M a = some (t, z) → OKc G M' a t z H')
    (hfv : ∀ t k b, b ≠ a → fv M' t k b = fv M t k b) (hav : ∀ t b, b ≠ a → av M' t b = av M t b) : Rel G M' H' := by
  obtain ⟨h1, h2, h3, h4⟩ := hR
  refine ⟨by rw [hz, h1, hn], by rw [hn]; exact h2, fun q hq => by rw [ho q (by omega)]; exact h3 q hq, fun b t z hb => ?_⟩
  rw [hc] at hb
  obtain ⟨q1, q2, q3, q4⟩ := h4 b t z hb
  refine ⟨by rw [hn]; exact q1, q2, ?_⟩
  by_cases hba : b = a
  · subst hba; exact hcell t z hb
  · refine ⟨fun ht => ?_, fun ht => ?_⟩
    · obtain ⟨cell, c1, c2, c3, c4⟩ := q3 ht
      exact ⟨cell, by rw [ho b hba]; exact c1, c2, c3, fun k hk => (c4 k hk).trans (congrArg some (hfv t k b hba).symm)⟩
    · rw [ho b hba, q4 ht, hav t b hba]
theorem av_arr {a t z : Nat} (hR : Rel G M H) (h : mC M a = some (t, z)) (ht : ¬ t < 11) : H[a]? = some (arrV (G.2.2.1 t) z (av M t a)) := ((hR.2.2.2 a t z h).2.2).2 ht
/-- a field that holds a number -/
def isI (t k : Nat) : Bool := match cY t k with
  | .long => false
  | .object _ => false
  | .array _ => false
  | _ => true
def isR (t k : Nat) : Bool := match cY t k with
  | .object _ => true
  | .array _ => true
  | _ => false
def isJ (t k : Nat) : Bool := match cY t k with
  | .long => true
  | _ => false
theorem fv_I {t k a : Nat} (h : isI t k = true) : fv M t k a = .int (mI M (64 * t + k) a) := by
  unfold isI at h; unfold fv
  split at h <;> first | cases h | skip
  split <;> simp_all
theorem fv_R {t k a : Nat} (h : isR t k = true) : fv M t k a = va_rf (mR M (64 * t + k) a) := by
  unfold isR at h; unfold fv
  split at h <;> first | cases h | skip
  all_goals (split <;> simp_all)
theorem fv_J {t k a : Nat} (h : isJ t k = true) : fv M t k a = .long (mJ M (64 * t + k) a) := by
  unfold isJ at h; unfold fv
  split at h <;> first | cases h | skip
  split <;> simp_all
/-- the fields' values by the maps -/
theorem fv_of {t k a : Nat} (h1 : mI M' (64 * t + k) a = mI M (64 * t + k) a) (h2 : mR M' (64 * t + k) a = mR M (64 * t + k) a) (h3 : mJ M' (64 * t + k) a = mJ M (64 * t + k) a) : fv M' t k a = fv M t k a := by
  unfold fv; split <;> simp_all
theorem av_of {t a : Nat} (h1 : mA M' a = mA M a) (h2 : mQ M' a = mQ M a) (h3 : mL M' a = mL M a) (h4 : mD M' a = mD M a) : av M' t a = av M t a := by
  funext j
  unfold av; split <;> simp_all
end RH0
section RH1
variable {G : GC} {mi : MI} {R : Room} {Qf : List Frame → Array Value → State → State → Prop} {pc : Nat} {L : List (Nat × Value)} {st : List Value} {M : Mem} {kc ks : Nat}
/-- the class knowledge at the method's own start -/
theorem amb_kn {p : Program} {l : Launch} {s : State} {m : MethodId} {args : Array Value} {meth : Method} {c : Code} (E : Amb G mi p l s m args meth c) {t : Nat} (ht : t < 11) : u_Kn s (cR t) (cT t) (cK t) (G.2.1.1 t) (G.2.1.2 t) := u_Kn_moved E.2.2.2.2.2.2.1.alike (E.2.2.2.2.2.2.2.1.2.1 t ht)
theorem amb_arr {p : Program} {l : Launch} {s : State} {m : MethodId} {args : Array Value} {meth : Method} {c : Code} (E : Amb G mi p l s m args meth c) {t : Nat} (h1 : 11 ≤ t) (ht : t < 18) : ArrOfT s (G.2.2.1 t) (aY t) ∧ va_RA s (G.2.2.1 t) (aY t) := ⟨arrOfT_moved E.2.2.2.2.2.2.1.alike (E.2.2.2.2.2.2.2.1.2.2.1 t h1 ht).1, (E.2.2.2.2.2.2.2.1.2.2.1 t h1 ht).2.moved E.2.2.2.2.2.2.1.alike⟩
theorem amb_same {p : Program} {l : Launch} {s : State} {m : MethodId} {args : Array Value} {meth : Method} {c : Code} (E : Amb G mi p l s m args meth c) {t k : Nat} (ht : t < 11) (hk : k < cK t) (x : ClassId × Class × Nat × Field) (ho : s.fieldFound? (cT t k).1 (cT t k).2.1 (cT t k).2.2.1 = some x) : s.fieldFound? (cR t) (cT t k).2.1 (cT t k).2.2.1 = some x := by
  rcases cT_same t ht k hk with h | h
  · rw [← h]; exact ho
  · exact u_same (E.2.2.2.2.1 _ (wG_of h rfl)) x ho
theorem r_get {a t k idx : Nat} (w : Cond.fieldLink mi.1 idx (cR t) (cT t k).2.1 (cT t k).2.2.1 ∈ wG) (d : decode mi.2.1 pc = .ok (.getfield idx, 3)) (hc : mC M a = some (t, 0)) (ht : t < 11) (hk : k < cK t) (kk : SWG G mi R Qf (pc + 3) L (fv M t k a :: st) M kc ks) : SWG G mi R Qf pc L (.ref a :: st) M kc ks := by
  intro p l e s m args below meth c E ls H locs hl hR hf
  obtain ⟨cell, q1, q2, q3, q4⟩ := ((hR.2.2.2 a t 0 hc).2.2).1 ht
  obtain ⟨hS, hfc, kC, hkC, hkind⟩ := amb_kn E ht
  obtain ⟨cf, kf, fi, f, hi, hsl⟩ := hS k hk
  refine W.getf E.1 E.2.1 E.2.2.2.1 (E.2.2.2.2.1 _ w) (amb_same E ht hk _ hi) (u_facts hfc hkC (u_lays E.2.2.2.2.1 (cT_inG t ht) hk) hi).1 q1 (by rw [q3]; exact fun h => by cases h) (v := fv M t k a) ?_ rfl rfl d (kk p l e s m args below meth c E ls H locs hl hR hf)
  rw [hsl, q4 k hk]
theorem r_getI {a t k idx : Nat} {x : Int32} (w : Cond.fieldLink mi.1 idx (cR t) (cT t k).2.1 (cT t k).2.2.1 ∈ wG) (d : decode mi.2.1 pc = .ok (.getfield idx, 3)) (hc : mC M a = some (t, 0)) (hv : mI M (64 * t + k) a = x) (ht : t < 11 := by decide) (hk : k < cK t := by decide) (hy : isI t k = true := by rfl) (kk : SWG G mi R Qf (pc + 3) L (.int x :: st) M kc ks) : SWG G mi R Qf pc L (.ref a :: st) M kc ks := by
  refine r_get w d hc ht hk ?_
  rw [fv_I hy, hv]; exact kk
theorem r_getR {a t k idx x : Nat} (w : Cond.fieldLink mi.1 idx (cR t) (cT t k).2.1 (cT t k).2.2.1 ∈ wG) (d : decode mi.2.1 pc = .ok (.getfield idx, 3)) (hc : mC M a = some (t, 0)) (hv : mR M (64 * t + k) a = some x) (ht : t < 11 := by decide) (hk : k < cK t := by decide) (hy : isR t k = true := by rfl) (kk : SWG G mi R Qf (pc + 3) L (.ref x :: st) M kc ks) : SWG G mi R Qf pc L (.ref a :: st) M kc ks := by
  refine r_get w d hc ht hk ?_
  rw [fv_R hy, hv]; exact kk
theorem r_getJ {a t k idx : Nat} {x : Int64} (w : Cond.fieldLink mi.1 idx (cR t) (cT t k).2.1 (cT t k).2.2.1 ∈ wG) (d : decode mi.2.1 pc = .ok (.getfield idx, 3)) (hc : mC M a = some (t, 0)) (hv : mJ M (64 * t + k) a = x) (ht : t < 11 := by decide) (hk : k < cK t := by decide) (hy : isJ t k = true := by rfl) (kk : SWG G mi R Qf (pc + 3) L (.long x :: st) M kc ks) : SWG G mi R Qf pc L (.ref a :: st) M kc ks := by
  refine r_get w d hc ht hk ?_
  rw [fv_J hy, hv]; exact kk
/-- a store, of any kind of field -/
theorem r_put {a t k idx : Nat} {v : Value} {M' : Mem} {ref : String} (href : ref = cR t ∨ ref = (cT t k).1) (w : Cond.fieldLink mi.1 idx ref (cT t k).2.1 (cT t k).2.2.1 ∈ wG) (d : decode mi.2.1 pc = .ok (.putfield idx, 3)) (hc : mC M a = some (t, 0)) (ht : t < 11) (hk : k < cK t)
    (hfin : (cT t k).2.2.2 = false ∨ (mi.2.2.2.2.1 = "<init>" ∧ (cT t k).1 = mi.1)) (hn : narrow (cY t k) v = v) (hfit : fits (cY t k) v = true)
    (h1 : mN M' = mN M) (h2 : mC M' = mC M) (h3 : ∀ t' k' b, (b ≠ a ∨ 64 * t' + k' ≠ 64 * t + k) → fv M' t' k' b = fv M t' k' b) (h4 : fv M' t k a = v) (h5 : ∀ t' b, av M' t' b = av M t' b)
    (kk : SWG G mi R Qf (pc + 3) L st M' kc ks) : SWG G mi R Qf pc L (v :: .ref a :: st) M kc ks := by
  intro p l e s m args below meth c E ls H locs hl hR hf
  obtain ⟨g1, g2, g3⟩ := hR.2.2.2 a t 0 hc
  obtain ⟨cell, q1, q2, q3, q4⟩ := g3.1 ht
  have hK := amb_kn E ht
  obtain ⟨hS, hfc, kC, hkC, hkind⟩ := id hK
  obtain ⟨cf, kf, fi, f, hi, hsl⟩ := hS k hk
  have hts := E.2.2.2.2.1
  have hty := cT_ty t ht k hk
  have hsm : ∀ x, s.fieldFound? (cT t k).1 (cT t k).2.1 (cT t k).2.2.1 = some x → s.fieldFound? ref (cT t k).2.1 (cT t k).2.2.1 = some x := by
    rcases href with h | h
    · rw [h]; exact fun x => amb_same E ht hk x
    · rw [h]; exact fun x h => h
  have hst := (u_facts hfc hkC (u_lays hts (cT_inG t ht) hk) hi).1
  have hap : ∀ x y, x < cK t → y < cK t → x ≠ y → G.2.1.2 t x ≠ G.2.1.2 t y := by
    intro x y hx hy hne
    obtain ⟨_, _, _, fa, hia, ea⟩ := hS x hx
    obtain ⟨_, _, _, fb, hib, eb⟩ := hS y hy
    rw [← ea, ← eb]
    refine u_apart (u_lays hts (cT_inG t ht) hx) (u_lays hts (cT_inG t ht) hy) hia hib ?_
    rw [(State.fieldFound?_type hia (cT_ty t ht x hx)).1, (State.fieldFound?_type hib (cT_ty t ht y hy)).1]
    exact cT_nm t ht x hx y hy hne
  have fin : ∀ H' : Heap, H'[a]? = some (cell.setSlot f.slot v) → H'.size = H.size → (∀ q, q ≠ a → H'[q]? = H[q]?) → W p l e R s m args below meth c H' (locs ++ [⟨a, f.slot⟩]) kc ks (Qf below args s) (F0 m (pc + 3) ls st) := by
    intro H' e1 e2 e3
    refine kk p l e s m args below meth c E ls H' _ hl (rel_upd hR a (g2 (by omega)) h1 h2 e2 e3 (fun t' z' hz => ?_) (fun t' k' b hb => h3 t' k' b (Or.inl hb)) (fun t' b _ => h5 t' b)) (fun q hq => ?_)
    · cases hc.symm.trans hz
      refine ⟨fun _ => ?_, fun q => absurd ht q⟩
      rw [hsl] at e1
      refine ⟨_, e1, q2, q3, fun j hj => ?_⟩
      rw [t_set q4 hap hk v j hj]
      by_cases hjk : j = k
      · subst hjk; simp [updV, h4]
      · simp [updV, hjk, h3 t j a (Or.inr (by omega))]
    · rcases List.mem_append.mp hq with h | h
      · exact hf q h
      · rw [List.mem_singleton.mp h]; exact g2 (by omega)
  rcases hfin with hfin | ⟨hin, hdecl⟩
  · have hlay := hts _ (cT_inG t ht _ (u_in_lay hk))
    unfold u_lay at hlay
    rw [if_neg (by rw [hfin]; decide)] at hlay
    have h6 := u_store hfc hkC hkind hlay hi hty hn hfit
    exact W.putK E.1 E.2.1 (f := f) ⟨E.2.2.2.1, hts _ w, ⟨_, _, _, hsm _ hi⟩, hst⟩ (by rw [q2]; exact h6) q1 q3 (by rw [hsl]; exact k2_hasslot (q4 k hk)) rfl rfl d fin
  · by_cases hfin : (cT t k).2.2.2 = true
    · have hlay := hts _ (cT_inG t ht _ (u_in_lay hk))
      unfold u_lay at hlay
      rw [if_pos hfin] at hlay
      have hcf : m.cls = cf := by
        obtain ⟨_, _, c', _, _, _, -, -, hf', -, -, -, hown2, -⟩ := Cond.laysFinal_spec hlay
        have e1 : c' = cf := by have := hi.symm.trans hf'; simp at this; exact this.1.symm
        rw [hdecl] at hown2
        rw [← e1]; exact Option.some.inj (E.2.2.2.1.symm.trans hown2)
      have h6 := u_fits hfc hkC hkind (Or.inr hlay) hi hty hn hfit
      exact W.putFinK E.1 E.2.1 E.2.2.2.1 (hts _ w) (hsm _ hi) hst hcf (E.2.2.2.2.2.2.2.2.2.1.trans hin) (by rw [q2]; exact h6) q1 q3 (by rw [hsl]; exact k2_hasslot (q4 k hk)) rfl rfl d fin
    · have hlay := hts _ (cT_inG t ht _ (u_in_lay hk))
      unfold u_lay at hlay
      rw [if_neg hfin] at hlay
      have h6 := u_store hfc hkC hkind hlay hi hty hn hfit
      exact W.putK E.1 E.2.1 (f := f) ⟨E.2.2.2.1, hts _ w, ⟨_, _, _, hsm _ hi⟩, hst⟩ (by rw [q2]; exact h6) q1 q3 (by rw [hsl]; exact k2_hasslot (q4 k hk)) rfl rfl d fin
theorem r_putI {a t k idx : Nat} {x : Int32} (w : Cond.fieldLink mi.1 idx (cR t) (cT t k).2.1 (cT t k).2.2.1 ∈ wG) (d : decode mi.2.1 pc = .ok (.putfield idx, 3)) (hc : mC M a = some (t, 0)) (ht : t < 11 := by decide) (hk : k < cK t := by decide) (hy : cY t k = .int := by rfl)
    (hfin : (cT t k).2.2.2 = false ∨ (mi.2.2.2.2.1 = "<init>" ∧ (cT t k).1 = mi.1) := by decide)
    (kk : SWG G mi R Qf (pc + 3) L st (sI M (64 * t + k) (upd (mI M (64 * t + k)) a x)) kc ks) : SWG G mi R Qf pc L (.int x :: .ref a :: st) M kc ks := by
  refine r_put (M' := sI M (64 * t + k) (upd (mI M (64 * t + k)) a x)) (Or.inl rfl) w d hc ht hk hfin (by rw [hy]; rfl) (by rw [hy]; rfl) rfl rfl (fun t' k' b hb => fv_of ?_ rfl rfl) ?_ (fun t' b => rfl) kk
  · by_cases hf : 64 * t' + k' = 64 * t + k
    · rw [hf, mI_sI]
      rcases hb with hb | hb
      · simp [upd, hb]
      · exact absurd hf hb
    · rw [mI_sIn _ _ _ _ hf]
  · rw [fv_I (by unfold isI; rw [hy]), mI_sI]
    simp [upd]
theorem r_putDI {a t k idx : Nat} {x : Int32} (w : Cond.fieldLink mi.1 idx (cT t k).1 (cT t k).2.1 (cT t k).2.2.1 ∈ wG) (d : decode mi.2.1 pc = .ok (.putfield idx, 3)) (hc : mC M a = some (t, 0)) (ht : t < 11 := by decide) (hk : k < cK t := by decide) (hy : cY t k = .int := by rfl)
    (hfin : (cT t k).2.2.2 = false ∨ (mi.2.2.2.2.1 = "<init>" ∧ (cT t k).1 = mi.1) := by decide)
    (kk : SWG G mi R Qf (pc + 3) L st (sI M (64 * t + k) (upd (mI M (64 * t + k)) a x)) kc ks) : SWG G mi R Qf pc L (.int x :: .ref a :: st) M kc ks := by
  refine r_put (M' := sI M (64 * t + k) (upd (mI M (64 * t + k)) a x)) (Or.inr rfl) w d hc ht hk hfin (by rw [hy]; rfl) (by rw [hy]; rfl) rfl rfl (fun t' k' b hb => fv_of ?_ rfl rfl) ?_ (fun t' b => rfl) kk
  · by_cases hf : 64 * t' + k' = 64 * t + k
    · rw [hf, mI_sI]
      rcases hb with hb | hb
      · simp [upd, hb]
      · exact absurd hf hb
    · rw [mI_sIn _ _ _ _ hf]
  · rw [fv_I (by unfold isI; rw [hy]), mI_sI]
    simp [upd]
theorem r_putZ {a t k idx : Nat} {x : Bool} (w : Cond.fieldLink mi.1 idx (cR t) (cT t k).2.1 (cT t k).2.2.1 ∈ wG) (d : decode mi.2.1 pc = .ok (.putfield idx, 3)) (hc : mC M a = some (t, 0)) (ht : t < 11 := by decide) (hk : k < cK t := by decide) (hy : cY t k = .boolean := by rfl)
    (hfin : (cT t k).2.2.2 = false ∨ (mi.2.2.2.2.1 = "<init>" ∧ (cT t k).1 = mi.1) := by decide)
    (kk : SWG G mi R Qf (pc + 3) L st (sI M (64 * t + k) (upd (mI M (64 * t + k)) a (bz x))) kc ks) : SWG G mi R Qf pc L (.int (bz x) :: .ref a :: st) M kc ks := by
  refine r_put (M' := sI M (64 * t + k) (upd (mI M (64 * t + k)) a (bz x))) (Or.inl rfl) w d hc ht hk hfin (by rw [hy]; exact bz_narrow x) (by rw [hy]; cases x <;> decide +kernel) rfl rfl (fun t' k' b hb => fv_of ?_ rfl rfl) ?_ (fun t' b => rfl) kk
  · by_cases hf : 64 * t' + k' = 64 * t + k
    · rw [hf, mI_sI]
      rcases hb with hb | hb
      · simp [upd, hb]
      · exact absurd hf hb
    · rw [mI_sIn _ _ _ _ hf]
  · rw [fv_I (by unfold isI; rw [hy]), mI_sI]
    simp [upd]
theorem r_putR {a t k idx x : Nat} (w : Cond.fieldLink mi.1 idx (cR t) (cT t k).2.1 (cT t k).2.2.1 ∈ wG) (d : decode mi.2.1 pc = .ok (.putfield idx, 3)) (hc : mC M a = some (t, 0)) (ht : t < 11 := by decide) (hk : k < cK t := by decide) (hy : isR t k = true := by rfl)
    (hfin : (cT t k).2.2.2 = false ∨ (mi.2.2.2.2.1 = "<init>" ∧ (cT t k).1 = mi.1) := by decide)
    (kk : SWG G mi R Qf (pc + 3) L st (sR M (64 * t + k) (va_up (mR M (64 * t + k)) a (some x))) kc ks) : SWG G mi R Qf pc L (.ref x :: .ref a :: st) M kc ks := by
  refine r_put (M' := sR M (64 * t + k) (va_up (mR M (64 * t + k)) a (some x))) (Or.inl rfl) w d hc ht hk hfin ?_ ?_ rfl rfl (fun t' k' b hb => fv_of rfl ?_ rfl) ?_ (fun t' b => rfl) kk
  · unfold isR at hy; split at hy <;> first | cases hy | skip
    all_goals (rename_i h; rw [h]; rfl)
  · unfold isR at hy; split at hy <;> first | cases hy | skip
    all_goals (rename_i h; rw [h]; rfl)
  · by_cases hf : 64 * t' + k' = 64 * t + k
    · rw [hf, mR_sR]
      rcases hb with hb | hb
      · simp [va_up, hb]
      · exact absurd hf hb
    · rw [mR_sRn _ _ _ _ hf]
  · rw [fv_R hy, mR_sR]
    simp [va_up, va_rf]
theorem r_putJ {a t k idx : Nat} {x : Int64} (w : Cond.fieldLink mi.1 idx (cR t) (cT t k).2.1 (cT t k).2.2.1 ∈ wG) (d : decode mi.2.1 pc = .ok (.putfield idx, 3)) (hc : mC M a = some (t, 0)) (ht : t < 11 := by decide) (hk : k < cK t := by decide) (hy : cY t k = .long := by rfl)
    (hfin : (cT t k).2.2.2 = false ∨ (mi.2.2.2.2.1 = "<init>" ∧ (cT t k).1 = mi.1) := by decide)
    (kk : SWG G mi R Qf (pc + 3) L st (sJ M (64 * t + k) (va_up (mJ M (64 * t + k)) a x)) kc ks) : SWG G mi R Qf pc L (.long x :: .ref a :: st) M kc ks := by
  refine r_put (M' := sJ M (64 * t + k) (va_up (mJ M (64 * t + k)) a x)) (Or.inl rfl) w d hc ht hk hfin (by rw [hy]; rfl) (by rw [hy]; rfl) rfl rfl (fun t' k' b hb => fv_of rfl rfl ?_) ?_ (fun t' b => rfl) kk
  · by_cases hf : 64 * t' + k' = 64 * t + k
    · rw [hf, mJ_sJ]
      rcases hb with hb | hb
      · simp [va_up, hb]
      · exact absurd hf hb
    · rw [mJ_sJn _ _ _ _ hf]
  · rw [fv_J (by unfold isJ; rw [hy]), mJ_sJ]
    simp [va_up]
end RH1
end
section
/-! ===== BEGIN a constructor that throws (launches without stack traces) ===== -/
section VXIA
variable {p : Program} {l : Launch} {e : Env} {R : Room} {s : State} {m : MethodId} {args : Array Value} {below : List Frame} {meth : Method} {c : Code} {T : State} {locs : List Loc} {cells slots : Nat}
theorem vx_callI (X : Stand p l e R s m args below meth c T locs cells slots) (hexec : p.tables.exec = Jvm.exec) {own : String} {index : Nat} {y : MethodName} {bytes : ByteArray} {maxL : Nat}
    (hown : s.vm.findClass own = some m.cls) (hy1 : y.name = "<init>") (hlink : (Cond.methodLink own index y).before args s = true) (hinst : (Cond.instanceMethod y).before args s = true)
    (hcode : (Cond.code y bytes maxL none).before args s = true) (hy : y.cls ≠ "java/lang/invoke/MethodHandle" ∧ y.cls ≠ "java/lang/invoke/VarHandle")
    {W9 : Nat} {Pre : Pt → Array Value → Prop} {Post : Pt → Array Value → Option Value → Pt → Prop} {PostX : Pt → Array Value → Addr → Pt → Prop} (hK : vx_Back l R p e below s args y 3 W9 Pre Post PostX)
    {g : JFrame} (hg : g.method = m) (hsize : g.locals.size = c.maxLocals) {a : Addr} {argsL rest : List Value} (hlen : ∀ sig, parseMethodDescriptor y.desc = some sig → argsL.length = sig.parameters.length)
    (hstack : g.stack = argsL.reverse ++ .ref a :: rest) (hW : 2 * g.monitorRoom + (rest.map fun v => v.category).sum ≤ W9) (hdg : decode c.code g.pc = .ok (.invokespecial index, 3))
    (hpre : ∀ vm₁, s.WarmedH vm₁ → Pre ⟨T.setVm vm₁, locs, cells, slots⟩ (Value.ref a :: argsL).toArray) :
    (∃ (v : Option Value) (vm₁ : Vm) (B : Pt), s.WarmedH vm₁ ∧ Stand p l e R s m args below meth c B.U B.locs B.cells B.slots ∧ Post ⟨T.setVm vm₁, locs, cells, slots⟩ (Value.ref a :: argsL).toArray v B ∧
      ∀ target, Steps p.tables e below (B.U.setTop { g with pc := g.pc + 3, stack := v.toList ++ rest }) target → Steps p.tables e below (T.setTop g) target) ∨
    (∃ (q : Addr) (vm₁ : Vm) (B : Pt), s.WarmedH vm₁ ∧ Stand p l e R s m args below meth c B.U B.locs B.cells B.slots ∧ PostX ⟨T.setVm vm₁, locs, cells, slots⟩ (Value.ref a :: argsL).toArray q B ∧
      Steps p.tables e below (T.setTop g) ((B.U.setTop { g with stack := rest }).pushFrame (.throwing q))) := by
  subst hg
  have hpl : e.platform.magicAccessors = ({} : Platform).magicAccessors := by rw [X.admits.platform]
  obtain ⟨mk, methM, cM, kP, vm₁, hnamed, hmethM, hcodeM, -, hlocalsM, -, hkP, -, hW₁, hstep₁⟩ := Steps.initColdArgs (e := e) X.here hexec X.warmed hpl hown hy1 hy hlink hinst hcode (f := g) rfl hlen hstack hdg
  have X₁ := X.noted hW₁
  rcases hK g.method meth c ⟨T.setVm vm₁, locs, cells, slots⟩ { g with stack := rest } (.invokespecial index) mk (Value.ref a :: argsL).toArray X₁ rfl hsize hdg hW (X₁.named hnamed) (hpre vm₁ X₁.warmed) with ⟨v, B, X', hpost, hsteps⟩ | ⟨q, B, X', hpost, hsteps⟩
  · exact Or.inl ⟨v, vm₁, B, X₁.warmed, X', hpost, fun target h => hstep₁ _ fun acts => by rw [doInvoke_state]; exact hsteps.trans h⟩
  · exact Or.inr ⟨q, vm₁, B, X₁.warmed, X', hpost, hstep₁ _ fun acts => by rw [doInvoke_state]; exact hsteps⟩
end VXIA
section VXIB
variable {p : Program} {l : Launch} {e : Env} {R : Room} {s : State} {m : MethodId} {args : Array Value} {below : List Frame} {meth : Method} {c : Code} {H : Heap} {locs : List Loc} {cells slots : Nat}
variable {y : MethodName} {bytes cc : ByteArray} {maxL nL mc ms n index : Nat} {ret : Option FieldType} {ws : List Cond} {rm : Room} {Pc : Array Value → State → Prop} {Qc : Array Value → State → Outcome → State → Prop} {XC : String → State → State → Prop} {free : Addr → Prop} {Ts : List Cond} {own C : String} {b : Addr} {As rest : List Value} {g : JFrame}
theorem vx_runI (S : CallFix p m c cc nL s args Ts own) (hM : vx_Met l y ws rm Pc Qc XC mc ms free) (cw : CallB R s args own index y bytes maxL none ws rm mc ms n ∧ y.name = "<init>" ∧ (Cond.instanceMethod y).before args s = true) (hp : PreS s H Pc (.ref b :: As))
    (hg : g.method = m) (hn : As.length = n) (hsize : g.locals.size = nL) (hstack : g.stack = As.reverse ++ .ref b :: rest) (hW : 2 * g.monitorRoom + (rest.map fun v => v.category).sum ≤ 8) (hdg : decode cc g.pc = .ok (.invokespecial index, 3)) (hf : cells + mc ≤ R.cells ∧ slots + ms ≤ R.slots) :
    vx_Run p l e R s m args below meth c H locs cells slots mc ms g rest (Qc (Value.ref b :: As).toArray) XC free := by
  have hK : vx_Back l R p e below s args y 3 8 (PreOf R mc ms Pc) (PostOf Qc mc ms free) (vx_Post XC mc ms free) := vx_callBack cw.1 hM hp.1
  obtain ⟨⟨-, -, -, -, -, -, hcode, -, hy, hlen, hl⟩, hy1, hin⟩ := cw
  obtain ⟨hx, hb, hml, ho, -⟩ := S
  have hPc := hp.2
  intro T hT X
  rcases vx_callI X hx (bytes := bytes) (maxL := maxL) ho hy1 hl hin hcode hy hK hg (hsize.trans hml.symm) (a := b) (argsL := As) (rest := rest) (fun sig h => hn.trans (hlen sig h)) hstack hW (by rw [hb]; exact hdg)
    (fun vm₁ hW₁ => ⟨hf.1, hf.2, hPc (T.setVm vm₁) hT hW₁⟩) with ⟨v, vm₁, ⟨U', l2, c2, s2⟩, hW₁, X', ⟨g', mk, t, L, e1, e2, hq, h1, hL, h2, h3⟩, st⟩ | ⟨q, vm₁, ⟨U', l2, c2, s2⟩, hW₁, X', ⟨g', mk, t, L, E, ce, e1, e2, hq, hce, hcv, hcl, h1, hL, h2, h3⟩, st⟩
  · dsimp only [Pt.U, Pt.locs, Pt.cells, Pt.slots] at X' e1 e2 h1 h2 h3 st
    subst h1; subst h2; subst h3
    exact Or.inl ⟨v, (T.setVm vm₁).calling g' mk (Value.ref b :: As).toArray, t, U', L, hT, X', hL, e1, e2, hq, st⟩
  · dsimp only [Pt.U, Pt.locs, Pt.cells, Pt.slots] at X' e1 e2 h1 h2 h3 st hcl
    subst h1; subst h2; subst h3
    exact Or.inr ⟨q, (T.setVm vm₁).calling g' mk (Value.ref b :: As).toArray, t, U', L, E, ce, hT, X', hL, e1, e2, hq, hce, hcv, vx_cls hW₁ hcl, st⟩
end VXIB
/-! ===== END ===== -/
/-! Contracts over the memory, calls, ends, throws. -/
section CT0
def rmd (d mc ms : Nat) : Room := { frames := d, cells := mc, slots := ms, locals := 64 * d }
def PcM (G : GC) (A : List Value) (M : Mem) : Array Value → State → Prop := fun a U => a = A.toArray ∧ G.1.WarmedH U.vm ∧ Rel G M U.heap
def QcM (G : GC) (PR : Option Value → Mem → Prop) : Array Value → State → Outcome → State → Prop := fun _ _ o t => ∃ v M', o = .returned v ∧ Rel G M' t.heap ∧ PR v M'
def XCM (G : GC) (PX : String → Mem → Prop) : String → State → State → Prop := fun E _ t => ∃ M', Rel G M' t.heap ∧ PX E M'
/-- THE CONTRACT: from the memory M with the arguments A the method y (its code mi) returns with PR, or throws with PX; at most mc cells of ms slots are new; d frames are room enough -/
def Ht (G : GC) (mi : MI) (y : MethodName) (d : Nat) (A : List Value) (M : Mem) (PR : Option Value → Mem → Prop) (PX : String → Mem → Prop) (mc ms : Nat) : Prop :=
  ∀ l, GOK G l → vx_Met l y (cwd mi y :: wG) (rmd d mc ms) (PcM G A M) (QcM G PR) (XCM G PX) mc ms (fun q => gB G ≤ q)
def QF (G : GC) (PR : Option Value → Mem → Prop) (PX : String → Mem → Prop) (mc ms : Nat) : List Frame → Array Value → State → State → Prop := fun below args s => vx_MQ below (QcM G PR) (XCM G PX) args s mc ms (fun q => gB G ≤ q)
def nX : String → Mem → Prop := fun _ _ => False
def rI (P : Int32 → Mem → Prop) : Option Value → Mem → Prop := fun v M => ∃ r, v = some (.int r) ∧ P r M
def rV (P : Mem → Prop) : Option Value → Mem → Prop := fun v M => v = none ∧ P M
def rA (P : Nat → Mem → Prop) : Option Value → Mem → Prop := fun v M => ∃ r, v = some (.ref r) ∧ P r M
def rO (P : Option Nat → Mem → Prop) : Option Value → Mem → Prop := fun v M => ∃ r, v = some (va_rf r) ∧ P r M
def rJ (P : Int64 → Mem → Prop) : Option Value → Mem → Prop := fun v M => ∃ r, v = some (.long r) ∧ P r M
def rF (P : UInt32 → Mem → Prop) : Option Value → Mem → Prop := fun v M => ∃ r, v = some (.float r) ∧ P r M
def rD (P : UInt64 → Mem → Prop) : Option Value → Mem → Prop := fun v M => ∃ r, v = some (.double r) ∧ P r M
theorem pcm_blind {G : GC} {A : List Value} {M : Mem} : FrameBlind (PcM G A M) := fun _ _ _ _ h => h
theorem amb_of {G : GC} {mi : MI} {y : MethodName} {p : Program} {l : Launch} {rm : Room} {e : Env} {s : State} {m : MethodId} {args : Array Value} {below : List Frame} {meth : Method} {c : Code} {s₁ : State} (hcls : y.cls = mi.1) (hnm : y.name = mi.2.2.2.2.1)
    (B : BodyLoose p l y (headSpec (cwd mi y :: wG) rm) mi.2.1 mi.2.2.1 mi.2.2.2.1 e s m args below meth c s₁) (hml : c.maxLocals = mi.2.2.1) (hW : G.1.WarmedH s.vm) (hg : GOK G l) (ht : c.exceptionTable.toList = tableOf mi.2.2.2.2.2) {M : Mem} (hR : Rel G M s.heap) : Amb G mi p l s m args meth c :=
  ⟨B.exec, B.bytes, hml, by rw [← hcls]; exact findClass_of_methodNamed B.named, fun w hw => atoms_spec (ws := cwd mi y :: wG) B.pre w (List.mem_cons_of_mem _ hw), B.notSynchronized, hW, hg, B.returns, by rw [← hnm]; exact (name_of_methodNamed B.named B.method).1, ht, hR.2.2.1, by rw [hR.1]; exact hR.2.1⟩
theorem ht_intro {G : GC} {mi : MI} {y : MethodName} {d mc ms : Nat} {A : List Value} {M : Mem} {PR : Option Value → Mem → Prop} {PX : String → Mem → Prop} (hy : plainName y.cls = true) (hcls : y.cls = mi.1) (hnm : y.name = mi.2.2.2.2.1) (hh : mi.2.2.2.2.2 = [])
    (hlen : (lg_sl A).length ≤ mi.2.2.1) (body : SWG G mi (rmd d mc ms) (QF G PR PX mc ms) 0 (lv_args 0 A) [] M 0 0) : Ht G mi y d A M PR PX mc ms := by
  intro l hg
  have hcw : cwd mi y = Cond.code y mi.2.1 mi.2.2.1 mi.2.2.2.1 := by unfold cwd; rw [hh]
  refine vx_ofW (cc := mi.2.1) (maxL := mi.2.2.1) (ret := mi.2.2.2.1) (ws' := wG) hy (by rw [hcw]) ?_
  intro p e s m args below meth c s₁ B hml ht hP
  obtain ⟨rfl, hW, hR⟩ := hP
  have hempty : c.exceptionTable.toList = tableOf mi.2.2.2.2.2 := by
    rw [hh]
    cases hc : c.exceptionTable.toList with
    | nil => rfl
    | cons a r => exact (ht a (by rw [hc]; exact List.mem_cons_self)).elim
  rw [lg_entry_eq]
  exact body p l e s m _ below meth c (amb_of hcls hnm B hml hW hg hempty hR) _ _ _ (lh_of (lv_entry A hlen)) hR (fun q hq => nomatch hq)
theorem ht_introH {G : GC} {mi : MI} {y : MethodName} {d mc ms : Nat} {A : List Value} {M : Mem} {PR : Option Value → Mem → Prop} {PX : String → Mem → Prop} (hy : plainName y.cls = true) (hcls : y.cls = mi.1) (hnm : y.name = mi.2.2.2.2.1) (hcw : cwd mi y = Cond.codeWith y mi.2.1 mi.2.2.1 mi.2.2.2.1 mi.2.2.2.2.2)
    (hlen : (lg_sl A).length ≤ mi.2.2.1) (body : SWG G mi (rmd d mc ms) (QF G PR PX mc ms) 0 (lv_args 0 A) [] M 0 0) : Ht G mi y d A M PR PX mc ms := by
  intro l hg
  refine vx_ofWH (cc := mi.2.1) (maxL := mi.2.2.1) (ret := mi.2.2.2.1) (hh := mi.2.2.2.2.2) (ws' := wG) hy (by rw [hcw]) ?_
  intro p e s m args below meth c s₁ B hml hP
  obtain ⟨rfl, hW, hR⟩ := hP
  have ht := vx_table (x := y) B (atoms_spec (ws := cwd mi y :: wG) B.pre _ (by rw [hcw]; exact List.mem_cons_self))
  rw [lg_entry_eq]
  exact body p l e s m _ below meth c (amb_of hcls hnm B hml hW hg ht hR) _ _ _ (lh_of (lv_entry A hlen)) hR (fun q hq => nomatch hq)
/-- the contract weakened -/
theorem vx_met_weak {l : Launch} {y : MethodName} {ws : List Cond} {rm : Room} {Pc Pc' : Array Value → State → Prop} {Qc Qc' : Array Value → State → Outcome → State → Prop} {XC XC' : String → State → State → Prop} {mc ms : Nat} {free : Addr → Prop}
    (h : vx_Met l y ws rm Pc Qc XC mc ms free) (hp : ∀ a s, Pc' a s → Pc a s) (hq : ∀ a s o t, Qc a s o t → Qc' a s o t) (hx : ∀ E s t, XC E s t → XC' E s t) : vx_Met l y ws rm Pc' Qc' XC' mc ms free := by
  intro p e ha hc hk s m args below hf hm hP hT
  obtain ⟨k, o, h1, h2, h3, hQ⟩ := h p e ha hc hk s m args below hf hm (hp _ _ hP) hT
  refine ⟨k, o, h1, h2, h3, ?_⟩
  rcases hQ with ⟨q1, q2⟩ | ⟨q, e1, E, ce, L, hx1, r⟩
  · exact Or.inl ⟨hq _ _ _ _ q1, q2⟩
  · exact Or.inr ⟨q, e1, E, ce, L, hx _ _ _ hx1, r⟩
theorem ht_weak {G : GC} {mi : MI} {y : MethodName} {d mc ms : Nat} {A : List Value} {M : Mem} {PR PR' : Option Value → Mem → Prop} {PX PX' : String → Mem → Prop} (h : Ht G mi y d A M PR PX mc ms) (h1 : ∀ v M', PR v M' → PR' v M') (h2 : ∀ E M', PX E M' → PX' E M') : Ht G mi y d A M PR' PX' mc ms :=
  fun l hg => vx_met_weak (h l hg) (fun _ _ h => h) (fun _ _ _ _ ⟨v, M', a, b, c⟩ => ⟨v, M', a, b, h1 _ _ c⟩) (fun _ _ _ ⟨M', a, b⟩ => ⟨M', a, h2 _ _ b⟩)
end CT0
section CT1
variable {G : GC} {mi : MI} {R : Room} {Qf : List Frame → Array Value → State → State → Prop} {pc : Nat} {L : List (Nat × Value)} {st : List Value} {M : Mem} {kc ks : Nat}
theorem wpay {s : State} {args : Array Value} (hts : ∀ w ∈ wG, w.before args s = true) : ∀ w ∈ wG, ∀ (a' : Array Value) (U : State), s.WarmedH U.vm → w.before a' U = true := fun w hw a' U hW => word_at hW (good_of_word (wG_good w hw)) (hts w hw)
theorem callB_G {mi mi' : MI} {p : Program} {l : Launch} {s : State} {m : MethodId} {args : Array Value} {meth : Method} {c : Code} {G : GC} (E : Amb G mi p l s m args meth c) {R : Room} {idx n d mc ms : Nat} {y : MethodName} (cw : cwOK mi.1 mi' idx y n) (hcw : cwd mi' y = Cond.code y mi'.2.1 mi'.2.2.1 mi'.2.2.2.1) (hR : d + 1 ≤ R.frames ∧ 8 + (mi'.2.2.1 + 11) + 64 * d ≤ R.locals) :
    CallB R s args mi.1 idx y mi'.2.1 mi'.2.2.1 mi'.2.2.2.1 (cwd mi' y :: wG) (rmd d mc ms) mc ms n := by
  obtain ⟨h1, h2, h3, h4, h5⟩ := cw
  have hts := E.2.2.2.2.1
  refine ⟨rfl, rfl, hR.1, hR.2, fun w hw => ?_, by rw [hcw]; exact List.mem_cons_self, by rw [← hcw]; exact hts _ h2, hts _ h3, h4, fun sig h => ?_, hts _ h1⟩
  · rcases List.mem_cons.mp hw with h | h
    · rw [h]; exact wpay hts _ h2
    · exact wpay hts _ h
  · rw [h] at h5
    exact (Option.some.inj h5).symm
/-- what comes of a call: the two ways -/
theorem run_G {p : Program} {l : Launch} {e : Env} {s : State} {m : MethodId} {args : Array Value} {below : List Frame} {meth : Method} {c : Code} (E : Amb G mi p l s m args meth c) {ls : Array Slot} {H : Heap} {locs : List Loc} (hl : lh ls mi.2.2.1 L) (hf : ∀ q ∈ locs, gB G ≤ q.base) {PR : Option Value → Mem → Prop} {PX : String → Mem → Prop} {mc ms : Nat} {st0 : List Value} {a : Array Value}
    (hr : vx_Run p l e R s m args below meth c H locs kc ks mc ms (F0 m pc ls st0) st (QcM G PR a) (XCM G PX) (fun q => gB G ≤ q))
    (k : ∀ v M', PR v M' → SWG G mi R Qf (pc + 3) L (v.toList ++ st) M' (kc + mc) (ks + ms)) (kx : ∀ E M', PX E M' → SXG G mi R Qf pc L M' (kc + mc) (ks + ms) E) : W p l e R s m args below meth c H locs kc ks (Qf below args s) (F0 m pc ls st0) := by
  intro T hT X
  rcases hr T hT X with ⟨v, s0, t, T', L1, h0, X', hL, e1, e2, ⟨v', M', hv, hRel, hPR⟩, go⟩ | ⟨q, s0, t, T', L1, E1, ce, h0, X', hL, e1, e2, ⟨M', hRel, hPX⟩, hce, hcv, hcl, go⟩
  · cases hv
    obtain ⟨t2, a1, b1⟩ := k v M' hPR p l e s m args below meth c E ls T'.heap (locs ++ L1) hl (by rw [e1]; exact hRel) (fun q hq => (List.mem_append.mp hq).elim (hf q) (hL q)) T' rfl X'
    exact ⟨t2, go t2 a1, b1⟩
  · obtain ⟨t2, a1, b1⟩ := kx E1 M' hPX p l e s m args below meth c E ls T'.heap (locs ++ L1) hl (by rw [e1]; exact hRel) (fun q hq => (List.mem_append.mp hq).elim (hf q) (hL q)) q ce st (by rw [e1]; exact hce) hcv hcl T' rfl X'
    exact ⟨t2, go.trans a1, b1⟩
theorem r_callS {mi' : MI} {idx n d mc ms : Nat} {y : MethodName} {A : List Value} {PR : Option Value → Mem → Prop} {PX : String → Mem → Prop} (cw : cwOK mi.1 mi' idx y n ∧ Cond.static y ∈ wG) (hd : decode mi.2.1 pc = .ok (.invokestatic idx, 3)) (h : Ht G mi' y d A M PR PX mc ms) (hcw : cwd mi' y = Cond.code y mi'.2.1 mi'.2.2.1 mi'.2.2.2.1 := by rfl) (hn : A.length = n := by rfl) (hR : d + 1 ≤ R.frames ∧ 8 + (mi'.2.2.1 + 11) + 64 * d ≤ R.locals := by exact ⟨Nat.le_of_ble_eq_true rfl, Nat.le_of_ble_eq_true rfl⟩) {st0 : List Value} (hs0 : st0 = A.reverse ++ st := by rfl) (hst : (st.map fun v => v.category).sum ≤ 8 := by exact Nat.le_of_ble_eq_true rfl) (hm : kc + mc ≤ R.cells ∧ ks + ms ≤ R.slots)
    (k : ∀ v M', PR v M' → SWG G mi R Qf (pc + 3) L (v.toList ++ st) M' (kc + mc) (ks + ms)) (kx : ∀ E M', PX E M' → SXG G mi R Qf pc L M' (kc + mc) (ks + ms) E) : SWG G mi R Qf pc L st0 M kc ks := by
  intro p l e s m args below meth c E ls H locs hl hRel hf
  refine run_G E hl hf (vx_runS (As := A) (Pc := PcM G A M) (g := F0 m pc ls st0) ⟨E.1, E.2.1, E.2.2.1, E.2.2.2.1, E.2.2.2.2.1⟩ (h l E.2.2.2.2.2.2.2.1) ⟨callB_G E cw.1 hcw hR, E.2.2.2.2.1 _ cw.2⟩ ⟨pcm_blind, fun U hU hW => ⟨rfl, State.WarmedH.trans E.2.2.2.2.2.2.1 hW, by rw [hU]; exact hRel⟩⟩ rfl hn hl.1 hs0 (by simpa [JFrame.monitorRoom] using hst) hd hm) k kx
theorem r_callV {mi' : MI} {idx n d mc ms b t : Nat} {y : MethodName} {A : List Value} {PR : Option Value → Mem → Prop} {PX : String → Mem → Prop} (cw : cwOK mi.1 mi' idx y n ∧ Cond.instanceMethod y ∈ wG ∧ Cond.selects (cR t) y y ∈ wG) (hd : decode mi.2.1 pc = .ok (.invokevirtual idx, 3)) (hc : mC M b = some (t, 0)) (h : Ht G mi' y d (.ref b :: A) M PR PX mc ms) (ht : t < 11 := by decide) (hcw : cwd mi' y = Cond.code y mi'.2.1 mi'.2.2.1 mi'.2.2.2.1 := by rfl) (hn : A.length = n := by rfl) (hR : d + 1 ≤ R.frames ∧ 8 + (mi'.2.2.1 + 11) + 64 * d ≤ R.locals := by exact ⟨Nat.le_of_ble_eq_true rfl, Nat.le_of_ble_eq_true rfl⟩) {st0 : List Value} (hs0 : st0 = A.reverse ++ .ref b :: st := by rfl) (hst : (st.map fun v => v.category).sum ≤ 8 := by exact Nat.le_of_ble_eq_true rfl) (hm : kc + mc ≤ R.cells ∧ ks + ms ≤ R.slots)
    (k : ∀ v M', PR v M' → SWG G mi R Qf (pc + 3) L (v.toList ++ st) M' (kc + mc) (ks + ms)) (kx : ∀ E M', PX E M' → SXG G mi R Qf pc L M' (kc + mc) (ks + ms) E) : SWG G mi R Qf pc L st0 M kc ks := by
  intro p l e s m args below meth c E ls H locs hl hRel hf
  have hrecv : ∃ cellB : Cell, H[b]? = some cellB ∧ cellB.vm.isStatics = false ∧ s.vm.findClass (cR t) = some cellB.cls := by
    obtain ⟨cell, q1, q2, q3, q4⟩ := ((hRel.2.2.2 b t 0 hc).2.2).1 ht
    exact ⟨cell, q1, by rw [q3]; rfl, by rw [q2]; exact (amb_kn E ht).2.1⟩
  refine run_G E hl hf (vx_runV (As := A) (C := cR t) (Pc := PcM G (.ref b :: A) M) (g := F0 m pc ls st0) ⟨E.1, E.2.1, E.2.2.1, E.2.2.2.1, E.2.2.2.2.1⟩ (h l E.2.2.2.2.2.2.2.1) ⟨callB_G E cw.1 hcw hR, E.2.2.2.2.1 _ cw.2.1, E.2.2.2.2.1 _ cw.2.2⟩ ⟨pcm_blind, hrecv, fun U hU hW => ⟨rfl, State.WarmedH.trans E.2.2.2.2.2.2.1 hW, by rw [hU]; exact hRel⟩⟩ rfl hn hl.1 hs0 (by simpa [JFrame.monitorRoom] using hst) hd hm) k kx
theorem r_callI {mi' : MI} {idx n d mc ms b : Nat} {y : MethodName} {A : List Value} {PR : Option Value → Mem → Prop} {PX : String → Mem → Prop} (cw : cwOK mi.1 mi' idx y n ∧ Cond.instanceMethod y ∈ wG) (hd : decode mi.2.1 pc = .ok (.invokespecial idx, 3)) (h : Ht G mi' y d (.ref b :: A) M PR PX mc ms) (hnm : y.name = "<init>" := by rfl) (hcw : cwd mi' y = Cond.code y mi'.2.1 mi'.2.2.1 none := by rfl) (hret : mi'.2.2.2.1 = none := by rfl) (hn : A.length = n := by rfl) (hR : d + 1 ≤ R.frames ∧ 8 + (mi'.2.2.1 + 11) + 64 * d ≤ R.locals := by exact ⟨Nat.le_of_ble_eq_true rfl, Nat.le_of_ble_eq_true rfl⟩) {st0 : List Value} (hs0 : st0 = A.reverse ++ .ref b :: st := by rfl) (hst : (st.map fun v => v.category).sum ≤ 8 := by exact Nat.le_of_ble_eq_true rfl) (hm : kc + mc ≤ R.cells ∧ ks + ms ≤ R.slots)
    (k : ∀ v M', PR v M' → SWG G mi R Qf (pc + 3) L (v.toList ++ st) M' (kc + mc) (ks + ms)) (kx : ∀ E M', PX E M' → SXG G mi R Qf pc L M' (kc + mc) (ks + ms) E) : SWG G mi R Qf pc L st0 M kc ks := by
  intro p l e s m args below meth c E ls H locs hl hRel hf
  have cb := callB_G E (R := R) (mc := mc) (ms := ms) cw.1 (by rw [hcw, hret]) hR
  rw [hret] at cb
  refine run_G E hl hf (vx_runI (As := A) (Pc := PcM G (.ref b :: A) M) (g := F0 m pc ls st0) ⟨E.1, E.2.1, E.2.2.1, E.2.2.2.1, E.2.2.2.2.1⟩ (h l E.2.2.2.2.2.2.2.1) ⟨cb, hnm, E.2.2.2.2.1 _ cw.2⟩ ⟨pcm_blind, fun U hU hW => ⟨rfl, State.WarmedH.trans E.2.2.2.2.2.2.1 hW, by rw [hU]; exact hRel⟩⟩ rfl hn hl.1 hs0 (by simpa [JFrame.monitorRoom] using hst) hd hm) k kx
theorem r_callSX {mi' : MI} {idx n d mc ms : Nat} {y : MethodName} {A : List Value} {PR : Option Value → Mem → Prop} {PX : String → Mem → Prop} (cw : cwOK mi.1 mi' idx y n ∧ Cond.static y ∈ wG) (hd : decode mi.2.1 pc = .ok (.invokestatic idx, 3)) (h : Ht G mi' y d A M PR PX mc ms) (hcw : cwd mi' y = Cond.codeWith y mi'.2.1 mi'.2.2.1 mi'.2.2.2.1 mi'.2.2.2.2.2 := by rfl) (hn : A.length = n := by rfl) (hR : d + 1 ≤ R.frames ∧ 8 + (mi'.2.2.1 + 11) + 64 * d ≤ R.locals := by exact ⟨Nat.le_of_ble_eq_true rfl, Nat.le_of_ble_eq_true rfl⟩) {st0 : List Value} (hs0 : st0 = A.reverse ++ st := by rfl) (hst : (st.map fun v => v.category).sum ≤ 8 := by exact Nat.le_of_ble_eq_true rfl) (hm : kc + mc ≤ R.cells ∧ ks + ms ≤ R.slots)
    (k : ∀ v M', PR v M' → SWG G mi R Qf (pc + 3) L (v.toList ++ st) M' (kc + mc) (ks + ms)) (kx : ∀ E M', PX E M' → SXG G mi R Qf pc L M' (kc + mc) (ks + ms) E) : SWG G mi R Qf pc L st0 M kc ks := by
  intro p l e s m args below meth c E ls H locs hl hRel hf
  obtain ⟨⟨h1, h2, h3, h4, h5⟩, h6⟩ := cw
  have hts := E.2.2.2.2.1
  refine run_G E hl hf (vx_runSX (hh := mi'.2.2.2.2.2) (bytes := mi'.2.1) (maxL := mi'.2.2.1) (ret := mi'.2.2.2.1) (n := n) (own := mi.1) (index := idx) (As := A) (Pc := PcM G A M) (g := F0 m pc ls st0) ⟨E.1, E.2.1, E.2.2.1, E.2.2.2.1, E.2.2.2.2.1⟩ (h l E.2.2.2.2.2.2.2.1) ⟨⟨rfl, rfl, hR.1, hR.2, fun w hw => ?_, by rw [hcw]; exact List.mem_cons_self⟩, by rw [← hcw]; exact hts _ h2, hts _ h3, h4, fun sig hs => ?_, hts _ h1, hts _ h6⟩ ⟨pcm_blind, fun U hU hW => ⟨rfl, State.WarmedH.trans E.2.2.2.2.2.2.1 hW, by rw [hU]; exact hRel⟩⟩ rfl hn hl.1 hs0 (by simpa [JFrame.monitorRoom] using hst) hd hm) k kx
  · rcases List.mem_cons.mp hw with h | h
    · rw [h]; exact wpay hts _ h2
    · exact wpay hts _ h
  · rw [hs] at h5
    exact (Option.some.inj h5).symm
end CT1
section CT2
variable {G : GC} {mi : MI} {R : Room} {Qf : List Frame → Array Value → State → State → Prop} {pc : Nat} {L : List (Nat × Value)} {st : List Value} {M : Mem} {kc ks : Nat} {PR : Option Value → Mem → Prop} {PX : String → Mem → Prop} {mc ms : Nat}
/-- thrown by a callee, not caught here -/
theorem r_out {E : String} (hh : mi.2.2.2.2.2 = [] := by rfl) (hx : PX E M) (hm : kc ≤ mc ∧ ks ≤ ms) : SXG G mi R (QF G PR PX mc ms) pc L M kc ks E := by
  intro p l e s m args below meth c E0 ls H locs hl hRel hf q ce rest hq hv hcl
  refine vx_out (fun x hx => ?_) E0.2.2.2.2.2.1 hq hv hcl (fun t ht _ => ⟨M, by rw [ht]; exact hRel, hx⟩) hf hm.1 hm.2
  rw [E0.2.2.2.2.2.2.2.2.2.2.1, hh] at hx
  exact nomatch hx
/-- no exception comes -/
theorem r_nox {kc' ks' : Nat} : ∀ (E : String) (M' : Mem), nX E M' → SXG G mi R Qf pc L M' kc' ks' E := fun _ _ h => h.elim
theorem r_iret {x : Int32} {ty : FieldType} (d : decode mi.2.1 pc = .ok (.ireturn, 1)) (hP : PR (some (.int x)) M) (hr : mi.2.2.2.1 = some ty := by rfl) (hn : narrow ty (.int x) = .int x := by rfl) (hm : kc ≤ mc ∧ ks ≤ ms := by first | exact ⟨Nat.le_refl _, Nat.le_refl _⟩ | (constructor <;> omega)) : SWG G mi R (QF G PR PX mc ms) pc L [.int x] M kc ks := by
  intro p l e s m args below meth c E ls H locs hl hRel hf
  refine W.widen hm.1 hm.2 (vx_ret ?_)
  exact W.zret E.1 E.2.1 (E.2.2.2.2.2.2.2.2.1.trans hr) hn (fun t ht _ => ⟨_, M, rfl, by rw [ht]; exact hRel, hP⟩) hf d E.2.2.2.2.2.1
theorem r_zret {x : Bool} (d : decode mi.2.1 pc = .ok (.ireturn, 1)) (hP : PR (some (.int (bz x))) M) (hr : mi.2.2.2.1 = some .boolean := by rfl) (hm : kc ≤ mc ∧ ks ≤ ms := by first | exact ⟨Nat.le_refl _, Nat.le_refl _⟩ | (constructor <;> omega)) : SWG G mi R (QF G PR PX mc ms) pc L [.int (bz x)] M kc ks := r_iret d hP hr (bz_narrow x) hm
theorem r_vret (d : decode mi.2.1 pc = .ok (.return_, 1)) (hP : PR none M) (hr : mi.2.2.2.1 = none := by rfl) (hm : kc ≤ mc ∧ ks ≤ ms := by first | exact ⟨Nat.le_refl _, Nat.le_refl _⟩ | (constructor <;> omega)) : SWG G mi R (QF G PR PX mc ms) pc L [] M kc ks := by
  intro p l e s m args below meth c E ls H locs hl hRel hf
  refine W.widen hm.1 hm.2 (vx_ret ?_)
  exact W.vret E.1 E.2.1 (E.2.2.2.2.2.2.2.2.1.trans hr) (fun t ht _ => ⟨_, M, rfl, by rw [ht]; exact hRel, hP⟩) hf d E.2.2.2.2.2.1
theorem r_aret {x : Nat} {ty : FieldType} (d : decode mi.2.1 pc = .ok (.areturn, 1)) (hP : PR (some (.ref x)) M) (hr : mi.2.2.2.1 = some ty := by rfl) (hty : (∃ n, ty = .object n) ∨ ∃ t, ty = .array t := by first | exact Or.inl ⟨_, rfl⟩ | exact Or.inr ⟨_, rfl⟩) (hm : kc ≤ mc ∧ ks ≤ ms := by first | exact ⟨Nat.le_refl _, Nat.le_refl _⟩ | (constructor <;> omega)) : SWG G mi R (QF G PR PX mc ms) pc L [.ref x] M kc ks := by
  intro p l e s m args below meth c E ls H locs hl hRel hf
  refine W.widen hm.1 hm.2 (vx_ret ?_)
  exact W.aret E.1 E.2.1 (E.2.2.2.2.2.2.2.2.1.trans hr) hty (Or.inr ⟨x, rfl⟩) (fun t ht _ => ⟨_, M, rfl, by rw [ht]; exact hRel, hP⟩) hf d E.2.2.2.2.2.1
theorem r_aretN {ty : FieldType} (d : decode mi.2.1 pc = .ok (.areturn, 1)) (hP : PR (some .null) M) (hr : mi.2.2.2.1 = some ty := by rfl) (hty : (∃ n, ty = .object n) ∨ ∃ t, ty = .array t := by first | exact Or.inl ⟨_, rfl⟩ | exact Or.inr ⟨_, rfl⟩) (hm : kc ≤ mc ∧ ks ≤ ms := by first | exact ⟨Nat.le_refl _, Nat.le_refl _⟩ | (constructor <;> omega)) : SWG G mi R (QF G PR PX mc ms) pc L [.null] M kc ks := by
  intro p l e s m args below meth c E ls H locs hl hRel hf
  refine W.widen hm.1 hm.2 (vx_ret ?_)
  exact W.aret E.1 E.2.1 (E.2.2.2.2.2.2.2.2.1.trans hr) hty (Or.inl rfl) (fun t ht _ => ⟨_, M, rfl, by rw [ht]; exact hRel, hP⟩) hf d E.2.2.2.2.2.1
theorem r_lret {x : Int64} (d : decode mi.2.1 pc = .ok (.lreturn, 1)) (hP : PR (some (.long x)) M) (hr : mi.2.2.2.1 = some .long := by rfl) (hm : kc ≤ mc ∧ ks ≤ ms := by first | exact ⟨Nat.le_refl _, Nat.le_refl _⟩ | (constructor <;> omega)) : SWG G mi R (QF G PR PX mc ms) pc L [.long x] M kc ks := by
  intro p l e s m args below meth c E ls H locs hl hRel hf
  refine W.widen hm.1 hm.2 (vx_ret ?_)
  exact W.lret E.1 E.2.1 (E.2.2.2.2.2.2.2.2.1.trans hr) (fun t ht _ => ⟨_, M, rfl, by rw [ht]; exact hRel, hP⟩) hf d E.2.2.2.2.2.1
theorem r_fret {x : UInt32} (d : decode mi.2.1 pc = .ok (.freturn, 1)) (hP : PR (some (.float x)) M) (hr : mi.2.2.2.1 = some .float := by rfl) (hm : kc ≤ mc ∧ ks ≤ ms := by first | exact ⟨Nat.le_refl _, Nat.le_refl _⟩ | (constructor <;> omega)) : SWG G mi R (QF G PR PX mc ms) pc L [.float x] M kc ks := by
  intro p l e s m args below meth c E ls H locs hl hRel hf
  refine W.widen hm.1 hm.2 (vx_ret ?_)
  exact W.fret E.1 E.2.1 (E.2.2.2.2.2.2.2.2.1.trans hr) (fun t ht _ => ⟨_, M, rfl, by rw [ht]; exact hRel, hP⟩) hf d E.2.2.2.2.2.1
theorem r_dret {x : UInt64} (d : decode mi.2.1 pc = .ok (.dreturn, 1)) (hP : PR (some (.double x)) M) (hr : mi.2.2.2.1 = some .double := by rfl) (hm : kc ≤ mc ∧ ks ≤ ms := by first | exact ⟨Nat.le_refl _, Nat.le_refl _⟩ | (constructor <;> omega)) : SWG G mi R (QF G PR PX mc ms) pc L [.double x] M kc ks := by
  intro p l e s m args below meth c E ls H locs hl hRel hf
  refine W.widen hm.1 hm.2 (vx_ret ?_)
  exact W.dret E.1 E.2.1 (E.2.2.2.2.2.2.2.2.1.trans hr) (fun t ht _ => ⟨_, M, rfl, by rw [ht]; exact hRel, hP⟩) hf d E.2.2.2.2.2.1
end CT2
end
section
/-! Arrays, new cells, throws. -/
section AR0
variable {G : GC} {M : Mem} {H H' : Heap}
theorem fv_nw {t z t' k b : Nat} (h : b ≠ mN M) : fv (nw M t z) t' k b = fv M t' k b := by
  refine fv_of ?_ ?_ ?_
  · show (if b = mN M then 0 else mI M _ b) = _
    rw [if_neg h]
  · show (if b = mN M then none else mR M _ b) = _
    rw [if_neg h]
  · show (if b = mN M then 0 else mJ M _ b) = _
    rw [if_neg h]
theorem av_nw {t z t' b : Nat} (h : b ≠ mN M) : av (nw M t z) t' b = av M t' b := av_of (up_n _ _ h) (up_n _ _ h) (up_n _ _ h) (up_n _ _ h)
/-- a cell comes at the end -/
theorem rel_new (hR : Rel G M H) {t z : Nat} (hz : H'.size = mN M + 1) (ho : ∀ q, q < mN M → H'[q]? = H[q]?) (hcell : OKc G (nw M t z) (mN M) t z H') : Rel G (nw M t z) H' := by
  obtain ⟨h1, h2, h3, h4⟩ := hR
  refine ⟨hz, by show gB G ≤ mN M + 1; omega, fun q hq => by rw [ho q (by omega)]; exact h3 q hq, fun b t' z' hb => ?_⟩
  by_cases hbn : b = mN M
  · subst hbn
    have e : mC (nw M t z) (mN M) = some (t, z) := up_s _ _ _
    rw [e] at hb
    cases hb
    exact ⟨Nat.lt_succ_self _, fun _ => h2, hcell⟩
  · have e : mC (nw M t z) b = mC M b := up_n _ _ hbn
    rw [e] at hb
    obtain ⟨q1, q2, q3, q4⟩ := h4 b t' z' hb
    refine ⟨Nat.lt_succ_of_lt q1, q2, fun ht => ?_, fun ht => ?_⟩
    · obtain ⟨cell, c1, c2, c3, c4⟩ := q3 ht
      exact ⟨cell, by rw [ho b q1]; exact c1, c2, c3, fun k hk => (c4 k hk).trans (congrArg some (fv_nw hbn).symm)⟩
    · rw [ho b q1, q4 ht, av_nw hbn]
end AR0
section AR1
variable {G : GC} {mi : MI} {R : Room} {Qf : List Frame → Array Value → State → State → Prop} {pc : Nat} {L : List (Nat × Value)} {st : List Value} {M : Mem} {kc ks : Nat}
theorem gCast_obj : ∀ t, t < 11 → (cR t, "java/lang/Object") ∈ gCast := by decide +kernel
theorem vin_j {i : Int} {j n : Nat} (hi : i = (j : Int)) (hj : j < n) (hn : n ≤ 2147483648) : vp_in (iz i) n ∧ (iz i).toNatClampNeg = j := by
  subst hi
  exact ⟨iz_in hj hn, iz_clamp (by omega)⟩
theorem r_iald {a t n j : Nat} {i : Int} {v : Int32} (d : decode mi.2.1 pc = .ok (.iaload, 1)) (hc : mC M a = some (t, n)) (hi : i = (j : Int)) (hv : mA M a j = v) (hj : j < n := by omega) (ht : t = 11 ∨ t = 16 := by decide) (hn : n ≤ 2147483648 := by omega) (k : SWG G mi R Qf (pc + 1) L (.int v :: st) M kc ks) : SWG G mi R Qf pc L (.int (iz i) :: .ref a :: st) M kc ks := by
  intro p l e s m args below meth c E ls H locs hl hR hf
  obtain ⟨g1, g2⟩ := vin_j hi hj hn
  have hA := av_arr hR hc (by omega)
  refine W.iald (v := av M t a (iz i).toNatClampNeg) E.1 E.2.1 hA ?_ (fun q => by cases q) (by show ¬ (_ ∨ (arrV _ _ _).slots.size ≤ _); rw [arrV_size]; exact g1) (by rw [arrV_read _ _ (by rw [g2]; exact hj)]) rfl rfl d ?_
  · have h9 := (amb_arr E (t := t) (by omega) (by omega)).1 n (av M t a)
    rcases ht with rfl | rfl <;> exact h9
  · have e9 : av M t a (iz i).toNatClampNeg = .int v := by
      rw [g2, ← hv]
      rcases ht with rfl | rfl <;> rfl
    rw [e9]
    exact k p l e s m args below meth c E ls H locs hl hR hf
theorem r_zald {a n j : Nat} {i : Int} {v : Int32} (d : decode mi.2.1 pc = .ok (.baload, 1)) (hc : mC M a = some (12, n)) (hi : i = (j : Int)) (hv : mA M a j = v) (hj : j < n := by omega) (hn : n ≤ 2147483648 := by omega) (k : SWG G mi R Qf (pc + 1) L (.int v :: st) M kc ks) : SWG G mi R Qf pc L (.int (iz i) :: .ref a :: st) M kc ks := by
  intro p l e s m args below meth c E ls H locs hl hR hf
  obtain ⟨g1, g2⟩ := vin_j hi hj hn
  have hA := av_arr hR hc (by omega)
  refine W.zald (v := .int v) E.1 E.2.1 hA ((amb_arr E (t := 12) (by omega) (by omega)).1 n _) (fun q => by cases q) (by show ¬ (_ ∨ (arrV _ _ _).slots.size ≤ _); rw [arrV_size]; exact g1) (by rw [arrV_read _ _ (by rw [g2]; exact hj), g2, ← hv]; rfl) rfl rfl d ?_
  exact k p l e s m args below meth c E ls H locs hl hR hf
theorem r_lald {a n j : Nat} {i : Int} {v : Int64} (d : decode mi.2.1 pc = .ok (.laload, 1)) (hc : mC M a = some (14, n)) (hi : i = (j : Int)) (hv : mL M a j = v) (hj : j < n := by omega) (hn : n ≤ 2147483648 := by omega) (k : SWG G mi R Qf (pc + 1) L (.long v :: st) M kc ks) : SWG G mi R Qf pc L (.int (iz i) :: .ref a :: st) M kc ks := by
  intro p l e s m args below meth c E ls H locs hl hR hf
  obtain ⟨g1, g2⟩ := vin_j hi hj hn
  have hA := av_arr hR hc (by omega)
  refine W.lald (v := .long v) E.1 E.2.1 hA ((amb_arr E (t := 14) (by omega) (by omega)).1 n _) (fun q => by cases q) (by show ¬ (_ ∨ (arrV _ _ _).slots.size ≤ _); rw [arrV_size]; exact g1) (by rw [arrV_read _ _ (by rw [g2]; exact hj), g2, ← hv]; rfl) rfl rfl d ?_
  exact k p l e s m args below meth c E ls H locs hl hR hf
theorem r_dald {a n j : Nat} {i : Int} {v : UInt64} (d : decode mi.2.1 pc = .ok (.daload, 1)) (hc : mC M a = some (15, n)) (hi : i = (j : Int)) (hv : mD M a j = v) (hj : j < n := by omega) (hn : n ≤ 2147483648 := by omega) (k : SWG G mi R Qf (pc + 1) L (.double v :: st) M kc ks) : SWG G mi R Qf pc L (.int (iz i) :: .ref a :: st) M kc ks := by
  intro p l e s m args below meth c E ls H locs hl hR hf
  obtain ⟨g1, g2⟩ := vin_j hi hj hn
  have hA := av_arr hR hc (by omega)
  refine W.dald (v := .double v) E.1 E.2.1 hA ((amb_arr E (t := 15) (by omega) (by omega)).1 n _) (fun q => by cases q) (by show ¬ (_ ∨ (arrV _ _ _).slots.size ≤ _); rw [arrV_size]; exact g1) (by rw [arrV_read _ _ (by rw [g2]; exact hj), g2, ← hv]; rfl) rfl rfl d ?_
  exact k p l e s m args below meth c E ls H locs hl hR hf
theorem r_aald {a n j x : Nat} {i : Int} (d : decode mi.2.1 pc = .ok (.aaload, 1)) (hc : mC M a = some (13, n)) (hi : i = (j : Int)) (hv : mQ M a j = some x) (hj : j < n := by omega) (hn : n ≤ 2147483648 := by omega) (k : SWG G mi R Qf (pc + 1) L (.ref x :: st) M kc ks) : SWG G mi R Qf pc L (.int (iz i) :: .ref a :: st) M kc ks := by
  intro p l e s m args below meth c E ls H locs hl hR hf
  obtain ⟨g1, g2⟩ := vin_j hi hj hn
  have hA := av_arr hR hc (by omega)
  refine W.aald (v := .ref x) (ty := .object "java/lang/Object") E.1 E.2.1 hA ((amb_arr E (t := 13) (by omega) (by omega)).1 n _) rfl (fun q => by cases q) (by show ¬ (_ ∨ (arrV _ _ _).slots.size ≤ _); rw [arrV_size]; exact g1) (by rw [arrV_read _ _ (by rw [g2]; exact hj), g2]; show some (va_rf (mQ M a j)) = _; rw [hv]; rfl) rfl rfl d ?_
  exact k p l e s m args below meth c E ls H locs hl hR hf
theorem r_alen {a t n : Nat} (d : decode mi.2.1 pc = .ok (.arraylength, 1)) (hc : mC M a = some (t, n)) (ht : 11 ≤ t ∧ t < 18 := by decide) (k : SWG G mi R Qf (pc + 1) L (.int (iz (n : Int)) :: st) M kc ks) : SWG G mi R Qf pc L (.ref a :: st) M kc ks := by
  intro p l e s m args below meth c E ls H locs hl hR hf
  have hA := av_arr hR hc (by omega)
  refine W.alen (n := iz (n : Int)) E.1 E.2.1 hA ((amb_arr E ht.1 ht.2).1 n _) ?_ rfl rfl d (k p l e s m args below meth c E ls H locs hl hR hf)
  rw [arrV_size, ← iz_nI]; rfl
/-- an array's cell after a store -/
theorem rel_ast {H H' : Heap} {M' : Mem} {a t n j : Nat} {v : Value} (hR : Rel G M H) (hc : mC M a = some (t, n)) (ht : ¬ t < 11) (ht2 : t < 16) (e1 : H'[a]? = some ((arrV (G.2.2.1 t) n (av M t a)).setSlot j v)) (e2 : H'.size = H.size) (e3 : ∀ q, q ≠ a → H'[q]? = H[q]?)
    (h1 : mN M' = mN M) (h2 : mC M' = mC M) (h3 : ∀ t' k' b, fv M' t' k' b = fv M t' k' b) (h4 : ∀ t' b, b ≠ a → av M' t' b = av M t' b) (h5 : av M' t a = updV (av M t a) j v) : Rel G M' H' := by
  refine rel_upd hR a ((hR.2.2.2 a t n hc).2.1 ht2) h1 h2 e2 e3 (fun t' z' hz => ?_) (fun t' k' b _ => h3 t' k' b) h4
  cases hc.symm.trans hz
  exact ⟨fun q => absurd q ht, fun _ => by rw [e1, arrV_store, h5]⟩
theorem loc_ast {a t n j : Nat} {H : Heap} {locs : List Loc} (hR : Rel G M H) (hc : mC M a = some (t, n)) (ht2 : t < 16) (hf : ∀ q ∈ locs, gB G ≤ q.base) : ∀ q ∈ locs ++ [(⟨a, j⟩ : Loc)], gB G ≤ q.base := by
  intro q hq
  rcases List.mem_append.mp hq with h | h
  · exact hf q h
  · rw [List.mem_singleton.mp h]; exact (hR.2.2.2 a t n hc).2.1 ht2
theorem r_iast {a n j : Nat} {i : Int} {v : Int32} (d : decode mi.2.1 pc = .ok (.iastore, 1)) (hc : mC M a = some (11, n)) (hi : i = (j : Int)) (hj : j < n := by omega) (hn : n ≤ 2147483648 := by omega) (k : SWG G mi R Qf (pc + 1) L st (sA M a (upd (mA M a) j v)) kc ks) : SWG G mi R Qf pc L (.int v :: .int (iz i) :: .ref a :: st) M kc ks := by
  intro p l e s m args below meth c E ls H locs hl hR hf
  obtain ⟨g1, g2⟩ := vin_j hi hj hn
  have hA := av_arr hR hc (by omega)
  refine W.iast E.1 E.2.1 hA ((amb_arr E (t := 11) (by omega) (by omega)).1 n _) (fun q => by cases q) (by show ¬ (_ ∨ (arrV _ _ _).slots.size ≤ _); rw [arrV_size]; exact g1) rfl rfl d (fun H' e1 e2 e3 => ?_)
  rw [g2] at e1 ⊢
  refine k p l e s m args below meth c E ls H' _ hl (rel_ast hR hc (by omega) (by omega) e1 e2 e3 rfl rfl (fun _ _ _ => rfl) (fun t' b hb => av_of (mA_sAn _ _ _ _ hb) rfl rfl rfl) ?_) (loc_ast hR hc (by omega) hf)
  funext q
  show Value.int (mA (sA M a _) a q) = _
  rw [mA_sA]
  simp only [upd, updV]
  split <;> rfl
theorem r_zast {a n j : Nat} {i : Int} {v : Bool} (d : decode mi.2.1 pc = .ok (.bastore, 1)) (hc : mC M a = some (12, n)) (hi : i = (j : Int)) (hj : j < n := by omega) (hn : n ≤ 2147483648 := by omega) (k : SWG G mi R Qf (pc + 1) L st (sA M a (upd (mA M a) j (bz v))) kc ks) : SWG G mi R Qf pc L (.int (bz v) :: .int (iz i) :: .ref a :: st) M kc ks := by
  intro p l e s m args below meth c E ls H locs hl hR hf
  obtain ⟨g1, g2⟩ := vin_j hi hj hn
  have hA := av_arr hR hc (by omega)
  refine W.zast E.1 E.2.1 hA ((amb_arr E (t := 12) (by omega) (by omega)).1 n _) (fun q => by cases q) (by show ¬ (_ ∨ (arrV _ _ _).slots.size ≤ _); rw [arrV_size]; exact g1) rfl rfl d (fun H' e1 e2 e3 => ?_)
  rw [g2, bz_narrow] at e1
  rw [g2]
  refine k p l e s m args below meth c E ls H' _ hl (rel_ast hR hc (by omega) (by omega) e1 e2 e3 rfl rfl (fun _ _ _ => rfl) (fun t' b hb => av_of (mA_sAn _ _ _ _ hb) rfl rfl rfl) ?_) (loc_ast hR hc (by omega) hf)
  funext q
  show Value.int (mA (sA M a _) a q) = _
  rw [mA_sA]
  simp only [upd, updV]
  split <;> rfl
theorem r_last {a n j : Nat} {i : Int} {v : Int64} (d : decode mi.2.1 pc = .ok (.lastore, 1)) (hc : mC M a = some (14, n)) (hi : i = (j : Int)) (hj : j < n := by omega) (hn : n ≤ 2147483648 := by omega) (k : SWG G mi R Qf (pc + 1) L st (sL M a (va_up (mL M a) j v)) kc ks) : SWG G mi R Qf pc L (.long v :: .int (iz i) :: .ref a :: st) M kc ks := by
  intro p l e s m args below meth c E ls H locs hl hR hf
  obtain ⟨g1, g2⟩ := vin_j hi hj hn
  have hA := av_arr hR hc (by omega)
  refine W.last E.1 E.2.1 hA ((amb_arr E (t := 14) (by omega) (by omega)).1 n _) (fun q => by cases q) (by show ¬ (_ ∨ (arrV _ _ _).slots.size ≤ _); rw [arrV_size]; exact g1) rfl rfl d (fun H' e1 e2 e3 => ?_)
  rw [g2] at e1 ⊢
  refine k p l e s m args below meth c E ls H' _ hl (rel_ast hR hc (by omega) (by omega) e1 e2 e3 rfl rfl (fun _ _ _ => rfl) (fun t' b hb => av_of rfl rfl (mL_sLn _ _ _ _ hb) rfl) ?_) (loc_ast hR hc (by omega) hf)
  funext q
  show Value.long (mL (sL M a _) a q) = _
  rw [mL_sL]
  simp only [va_up, updV]
  split <;> rfl
theorem r_dast {a n j : Nat} {i : Int} {v : UInt64} (d : decode mi.2.1 pc = .ok (.dastore, 1)) (hc : mC M a = some (15, n)) (hi : i = (j : Int)) (hj : j < n := by omega) (hn : n ≤ 2147483648 := by omega) (k : SWG G mi R Qf (pc + 1) L st (sD M a (va_up (mD M a) j v)) kc ks) : SWG G mi R Qf pc L (.double v :: .int (iz i) :: .ref a :: st) M kc ks := by
  intro p l e s m args below meth c E ls H locs hl hR hf
  obtain ⟨g1, g2⟩ := vin_j hi hj hn
  have hA := av_arr hR hc (by omega)
  refine W.dast E.1 E.2.1 hA ((amb_arr E (t := 15) (by omega) (by omega)).1 n _) (fun q => by cases q) (by show ¬ (_ ∨ (arrV _ _ _).slots.size ≤ _); rw [arrV_size]; exact g1) rfl rfl d (fun H' e1 e2 e3 => ?_)
  rw [g2] at e1 ⊢
  refine k p l e s m args below meth c E ls H' _ hl (rel_ast hR hc (by omega) (by omega) e1 e2 e3 rfl rfl (fun _ _ _ => rfl) (fun t' b hb => av_of rfl rfl rfl (mD_sDn _ _ _ _ hb)) ?_) (loc_ast hR hc (by omega) hf)
  funext q
  show Value.double (mD (sD M a _) a q) = _
  rw [mD_sD]
  simp only [va_up, updV]
  split <;> rfl
/-- null into a row of objects -/
theorem r_aastN {a n j : Nat} {i : Int} (d : decode mi.2.1 pc = .ok (.aastore, 1)) (hc : mC M a = some (13, n)) (hi : i = (j : Int)) (hj : j < n := by omega) (hn : n ≤ 2147483648 := by omega) (k : SWG G mi R Qf (pc + 1) L st (sQ M a (va_up (mQ M a) j none)) kc ks) : SWG G mi R Qf pc L (.null :: .int (iz i) :: .ref a :: st) M kc ks := by
  intro p l e s m args below meth c E ls H locs hl hR hf
  obtain ⟨g1, g2⟩ := vin_j hi hj hn
  have hA := av_arr hR hc (by omega)
  refine va_WaastN (C := "java/lang/Object") E.1 E.2.1 hA ((amb_arr E (t := 13) (by omega) (by omega)).1 n _) (fun q => by cases q) (by show ¬ (_ ∨ (arrV _ _ _).slots.size ≤ _); rw [arrV_size]; exact g1) rfl rfl d (fun H' e1 e2 e3 => ?_)
  rw [g2] at e1 ⊢
  refine k p l e s m args below meth c E ls H' _ hl (rel_ast hR hc (by omega) (by omega) e1 e2 e3 rfl rfl (fun _ _ _ => rfl) (fun t' b hb => av_of rfl (mQ_sQn _ _ _ _ hb) rfl rfl) ?_) (loc_ast hR hc (by omega) hf)
  funext q
  show va_rf (mQ (sQ M a _) a q) = _
  rw [mQ_sQ]
  simp only [va_up, updV]
  split <;> rfl
/-- an object into a row of objects -/
theorem r_aast {a n j x t : Nat} {i : Int} (d : decode mi.2.1 pc = .ok (.aastore, 1)) (hc : mC M a = some (13, n)) (hx : mC M x = some (t, 0)) (hi : i = (j : Int)) (ht : t < 11 := by decide) (hj : j < n := by omega) (hn : n ≤ 2147483648 := by omega) (k : SWG G mi R Qf (pc + 1) L st (sQ M a (va_up (mQ M a) j (some x))) kc ks) : SWG G mi R Qf pc L (.ref x :: .int (iz i) :: .ref a :: st) M kc ks := by
  intro p l e s m args below meth c E ls H locs hl hR hf
  obtain ⟨g1, g2⟩ := vin_j hi hj hn
  have hA := av_arr hR hc (by omega)
  have h0 : ¬ iz i < 0 := fun q => g1 (Or.inl q)
  obtain ⟨cellV, q1, q2, q3, q4⟩ := ((hR.2.2.2 x t 0 hx).2.2).1 ht
  have hcls := (amb_kn E ht).2
  obtain ⟨kA, comp, k1, k2, k3, -⟩ := (amb_arr E (t := 13) (by omega) (by omega)).2
  obtain ⟨kC, hkC, -⟩ := hcls.2
  obtain ⟨kE, hkE, -⟩ := Vm.findClass_spec k3
  refine W.aast E.1 E.2.1 hA (fun q h => by cases h) (fun h => by cases h) k1 k2 rfl hkE ⟨h0, by show _ < (arrV _ _ _).slots.size; rw [arrV_size, g2]; exact hj⟩ q1 (fun q h => by rw [q3] at h; cases h) (by rw [q2]; exact hkC) (by
    rw [q2]
    have hca : va_Nw (.castable (cR t) "java/lang/Object") s := va_Nw.warmC E.2.2.2.2.2.2.1 (E.2.2.2.2.2.2.2.1.2.2.2.2.2.2.1 (cR t, "java/lang/Object") (gCast_obj t ht))
    obtain ⟨c0, t1, f1, f2, f3⟩ := Cond.castable_spec (va_Nw.use (A := args) rfl hca)
    cases hcls.1.symm.trans f1
    cases k3.symm.trans f2
    exact f3) rfl rfl d fun H' e1 e2 e3 => ?_
  rw [g2] at e1 ⊢
  refine k p l e s m args below meth c E ls H' _ hl (rel_ast hR hc (by omega) (by omega) e1 e2 e3 rfl rfl (fun _ _ _ => rfl) (fun t' b hb => av_of rfl (mQ_sQn _ _ _ _ hb) rfl rfl) ?_) (loc_ast hR hc (by omega) hf)
  funext q
  show va_rf (mQ (sQ M a _) a q) = _
  rw [mQ_sQ]
  simp only [va_up, updV]
  split <;> rfl
end AR1
end
section
/-! New cells, casts, throws, catches, statics, the JDK's natives. -/
section NW0
theorem blank_fv {G : GC} {M : Mem} {t k z : Nat} (h : k < cK t) (ht : t < 11) : fv (nw M t z) t k (mN M) = defaultValue (cY t k) := by
  have e1 : mI (nw M t z) (64 * t + k) (mN M) = 0 := if_pos rfl
  have e2 : mR (nw M t z) (64 * t + k) (mN M) = none := if_pos rfl
  have e3 : mJ (nw M t z) (64 * t + k) (mN M) = 0 := if_pos rfl
  have hc : isI t k = true ∨ isR t k = true ∨ isJ t k = true := by
    unfold isI isR isJ; cases cY t k <;> simp
  have hI : isI t k = true → defaultValue (cY t k) = .int 0 := by
    intro h
    have : ∀ t, t < 11 → ∀ k, k < cK t → isI t k = true → defaultValue (cY t k) = .int 0 := by decide +kernel
    exact this t ht k (by assumption) h
  have hR : isR t k = true → defaultValue (cY t k) = .null := by
    intro h
    have : ∀ t, t < 11 → ∀ k, k < cK t → isR t k = true → defaultValue (cY t k) = .null := by decide +kernel
    exact this t ht k (by assumption) h
  have hJ : isJ t k = true → defaultValue (cY t k) = .long 0 := by
    intro h
    have : ∀ t, t < 11 → ∀ k, k < cK t → isJ t k = true → defaultValue (cY t k) = .long 0 := by decide +kernel
    exact this t ht k (by assumption) h
  rcases hc with q | q | q
  · rw [fv_I q, hI q, e1]
  · rw [fv_R q, hR q, e2]; rfl
  · rw [fv_J q, hJ q, e3]
end NW0
section NW1
variable {G : GC} {mi : MI} {R : Room} {Qf : List Frame → Array Value → State → State → Prop} {pc : Nat} {L : List (Nat × Value)} {st : List Value} {M : Mem} {kc ks : Nat}
theorem amb_S {p : Program} {l : Launch} {e : Env} {s : State} {m : MethodId} {args : Array Value} {below : List Frame} {meth : Method} {c : Code} (E : Amb G mi p l s m args meth c) {H : Heap} {locs : List Loc} (hR : Rel G M H) (hf : ∀ q ∈ locs, gB G ≤ q.base) {T : State} (X : Stand p l e R s m args below meth c T locs kc ks) (hT : T.heap = H) : va_S (fun q => gB G ≤ q) s.heap H locs := by
  have hs : s.heap.size ≤ T.heap.size := X.same.2.1
  rw [hT] at hs
  refine ⟨hs, fun q h1 h2 => ?_, hf⟩
  have h3 : q < gB G := by omega
  rw [hR.2.2.1 q h3, E.2.2.2.2.2.2.2.2.2.2.2.1 q h3]
theorem r_new {t idx : Nat} (w : Cond.classLink mi.1 idx (cR t) ∈ wG ∧ Cond.instantiable (cR t) (cK t) ∈ wG ∧ Cond.initialized (cR t) ∈ wG) (d : decode mi.2.1 pc = .ok (.new idx, 3)) (ht : t < 11 := by decide) (hm : kc + 1 ≤ R.cells ∧ ks + cK t ≤ R.slots) (k : (∀ a t z, mC M a = some (t, z) → a < mN M) → gB G ≤ mN M → SWG G mi R Qf (pc + 3) L (.ref (mN M) :: st) (nw M t 0) (kc + 1) (ks + cK t)) : SWG G mi R Qf pc L st M kc ks := by
  intro p l e s m args below meth c E ls H locs hl hR hf
  have hts := E.2.2.2.2.1
  have hKn := amb_kn E ht
  refine W.newcK E.1 E.2.1 E.2.2.2.1 (hts _ w.1) (hts _ w.2.1) (hts _ w.2.2) rfl d hm.1 hm.2 hKn.2.1 hR.1 fun H1 kC hkC e1 z1 o1 => ?_
  refine k (fun a t z h => (hR.2.2.2 a t z h).1) hR.2.1 p l e s m args below meth c E ls H1 locs hl (rel_new hR z1 (fun q hq => o1 q hq) ⟨fun _ => ?_, fun q => absurd ht q⟩) hf
  exact (u_born (cY t) hts (cT_inG t ht) hKn hkC e1 (cT_ty t ht)).to (fun j hj => (blank_fv (G := G) hj ht).symm)
/-- an array of numbers -/
theorem r_newa {t N : Nat} {n : Int} {aty : ArrayType} (w : Cond.arrayClass (newarray.typeOf aty) ∈ wG) (d : decode mi.2.1 pc = .ok (.newarray aty, 2)) (hn : n = (N : Int)) (hta : newarray.typeOf aty = aY t := by rfl) (ht : t = 11 ∨ t = 12 ∨ t = 14 ∨ t = 15 := by decide) (hN : N ≤ 100000 := by omega) (hm : kc + 1 ≤ R.cells ∧ ks + N ≤ R.slots) (k : (∀ a t z, mC M a = some (t, z) → a < mN M) → gB G ≤ mN M → SWG G mi R Qf (pc + 2) L (.ref (mN M) :: st) (nw M t N) (kc + 1) (ks + N)) : SWG G mi R Qf pc L (.int (iz n) :: st) M kc ks := by
  intro p l e s m args below meth c E ls H locs hl hR hf
  subst hn
  have hc := iz_clamp (n := N) (by omega)
  have hneg : ¬ iz (N : Int) < 0 := by rw [← iz_nI]; exact nI_pos (by omega)
  refine va_newaK E.1 E.2.1 (E.2.2.2.2.1 _ w) rfl d rfl hneg hc (by cases aty <;> simp [newarray.typeOf, componentBytes] <;> omega) hm.1 hm.2 hR.1 fun H1 cA e1 z1 o1 hAr hNm => ?_
  refine k (fun a t z h => (hR.2.2.2 a t z h).1) hR.2.1 p l e s m args below meth c E ls H1 locs hl (rel_new hR z1 (fun q hq => o1 q hq) ⟨fun q => by omega, fun _ => ?_⟩) hf
  have hRA := (amb_arr E (t := t) (by omega) (by omega)).2
  have hcA : cA = G.2.2.1 t := by
    rw [hta] at hNm
    rcases ht with rfl | rfl | rfl | rfl <;> exact Option.some.inj (hNm.symm.trans hRA)
  rw [e1, hcA]
  congr 2
  funext j
  rw [hta]
  rcases ht with rfl | rfl | rfl | rfl
  · show Value.int 0 = Value.int (mA (nw M 11 N) (mN M) j); rw [show mA (nw M 11 N) (mN M) = (fun _ => 0) from up_s _ _ _]
  · show Value.int 0 = Value.int (mA (nw M 12 N) (mN M) j); rw [show mA (nw M 12 N) (mN M) = (fun _ => 0) from up_s _ _ _]
  · show Value.long 0 = Value.long (mL (nw M 14 N) (mN M) j); rw [show mL (nw M 14 N) (mN M) = (fun _ => 0) from up_s _ _ _]
  · show Value.double 0 = Value.double (mD (nw M 15 N) (mN M) j); rw [show mD (nw M 15 N) (mN M) = (fun _ => 0) from up_s _ _ _]
/-- a row of objects -/
theorem r_newq {N idx : Nat} {n : Int} (w : Cond.classLink mi.1 idx "java/lang/Object" ∈ wG) (d : decode mi.2.1 pc = .ok (.anewarray idx, 3)) (hn : n = (N : Int)) (hN : N ≤ 100000 := by omega) (hm : kc + 1 ≤ R.cells ∧ ks + N ≤ R.slots) (k : (∀ a t z, mC M a = some (t, z) → a < mN M) → gB G ≤ mN M → SWG G mi R Qf (pc + 3) L (.ref (mN M) :: st) (nw M 13 N) (kc + 1) (ks + N)) : SWG G mi R Qf pc L (.int (iz n) :: st) M kc ks := by
  intro p l e s m args below meth c E ls H locs hl hR hf
  subst hn
  have hc := iz_clamp (n := N) (by omega)
  have hneg : ¬ iz (N : Int) < 0 := by rw [← iz_nI]; exact nI_pos (by omega)
  have hover : va_AO "java/lang/Object" s := va_AO.moved E.2.2.2.2.2.2.1.alike E.2.2.2.2.2.2.2.1.2.2.2.2.2.1
  refine W.anew E.1 E.2.1 E.2.2.2.1 (E.2.2.2.2.1 _ w) (va_AO.use hover) rfl d rfl hneg (by rw [hc]; omega) hm.1 (by rw [hc]; exact hm.2) fun cA kA comp f1 f2 f3 f4 => ?_
  rw [hc]
  have hRA := (amb_arr E (t := 13) (by omega) (by omega)).2
  obtain ⟨kA', comp', -, -, -, h4⟩ := hRA
  have hcA : cA = G.2.2.1 13 := Option.some.inj (f1.symm.trans h4)
  rw [hR.1]
  refine k (fun a t z h => (hR.2.2.2 a t z h).1) hR.2.1 p l e s m args below meth c E ls _ locs hl (rel_new hR (by rw [Array.size_push, hR.1]) (fun q hq => by rw [Array.getElem?_push, if_neg (by rw [hR.1]; omega)]) ⟨fun q => by omega, fun _ => ?_⟩) hf
  rw [← hR.1, Array.getElem?_push_size, arrV_new, hcA]
  congr 2
  funext j
  show Value.null = va_rf (mQ (nw M 13 N) _ j)
  rw [hR.1, show mQ (nw M 13 N) (mN M) = (fun _ => none) from up_s _ _ _]; rfl
/-- a cast to the class that it is -/
theorem r_cast {t a idx : Nat} (w : Cond.classLink mi.1 idx (cR t) ∈ wG) (d : decode mi.2.1 pc = .ok (.checkcast idx, 3)) (hc : mC M a = some (t, 0)) (ht : t < 11 := by decide) (k : SWG G mi R Qf (pc + 3) L (.ref a :: st) M kc ks) : SWG G mi R Qf pc L (.ref a :: st) M kc ks := by
  intro p l e s m args below meth c E ls H locs hl hR hf
  obtain ⟨cell, q1, q2, q3, q4⟩ := ((hR.2.2.2 a t 0 hc).2.2).1 ht
  have hK := amb_kn E ht
  exact va_castS E.1 E.2.1 E.2.2.2.1 (E.2.2.2.2.1 _ w) hK.2 ⟨cell, q1, by rw [q3]; rfl, by rw [q2]; exact hK.2.1⟩ d (k p l e s m args below meth c E ls H locs hl hR hf)
/-- the call of Object's constructor -/
theorem r_oinit {a idx : Nat} (w : Cond.methodLink mi.1 idx Lib.objectInit ∈ wG ∧ Cond.instanceMethod Lib.objectInit ∈ wG ∧ Cond.code Lib.objectInit ⟨#[0xb1]⟩ 1 none ∈ wG) (d : decode mi.2.1 pc = .ok (.invokespecial idx, 3)) (hR1 : 1 ≤ R.frames ∧ (st.map fun v => v.category).sum + 12 ≤ R.locals := by exact ⟨Nat.le_of_ble_eq_true rfl, Nat.le_of_ble_eq_true rfl⟩) (k : SWG G mi R Qf (pc + 3) L st M kc ks) : SWG G mi R Qf pc L (.ref a :: st) M kc ks := by
  intro p l e s m args below meth c E ls H locs hl hR hf
  have hts := E.2.2.2.2.1
  exact W.objInit E.1 E.2.1 E.2.2.2.1 (hts _ w.1) (hts _ w.2.1) (hts _ w.2.2) rfl (hl.1.trans E.2.2.1.symm) rfl d hR1.1 (by show 2 * 0 + _ + _ ≤ _; omega) (k p l e s m args below meth c E ls H locs hl hR hf)
/-- the list's empty row -/
theorem r_gete {idx : Nat} (w : Cond.fieldLink mi.1 idx "java/util/ArrayList" "DEFAULTCAPACITY_EMPTY_ELEMENTDATA" "[Ljava/lang/Object;" ∈ wG) (d : decode mi.2.1 pc = .ok (.getstatic idx, 3)) (k : SWG G mi R Qf (pc + 3) L (.ref G.2.2.2 :: st) M kc ks) : SWG G mi R Qf pc L st M kc ks := by
  intro p l e s m args below meth c E ls H locs hl hR hf
  intro T hT X
  have hZ := va_Z.moved E.2.2.2.2.2.2.1.alike (va_Z.kept (H1 := s.heap) E.2.2.2.2.2.2.2.1.2.2.2.2.2.2.2.2.2.1 (fun a _ h2 => E.2.2.2.2.2.2.2.2.2.2.2.1 a (by omega)))
  exact va_gets E.1 E.2.1 hZ (amb_S E hR hf X hT) E.2.2.2.1 (E.2.2.2.2.1 _ w) (fun x h => h) d (k p l e s m args below meth c E ls H locs hl hR hf) T hT X
/-- 'throw new E("text")' -/
theorem r_throw {ik is ic : Nat} {cls text : String} {names : List String} {PR : Option Value → Mem → Prop} {PX : String → Mem → Prop} {mc ms : Nat} (hk : Cond.classLink mi.1 ik cls ∈ wG ∧ Cond.initialized cls ∈ wG ∧ (vx_atS mi.1 ic cls names).all (fun w => decide (w ∈ lw_tbl) && goodWord w) = true) (hs : (mi.1, is, text) ∈ gStr)
    (d0 : decode mi.2.1 pc = .ok (.new ik, 3)) (d3 : decode mi.2.1 (pc + 3) = .ok (.dup, 1)) (d4 : decode mi.2.1 (pc + 4) = .ok (.ldc is, 2)) (d6 : decode mi.2.1 (pc + 6) = .ok (.invokespecial ic, 3)) (d9 : decode mi.2.1 (pc + 9) = .ok (.athrow, 1))
    (hcls : Bundle.fit cls = true := by decide +kernel) (hnames : names.all Bundle.fit = true := by decide +kernel) (hh : mi.2.2.2.2.2 = [] := by rfl) (hR1 : names.length + 3 < R.frames ∧ (st.map fun v => v.category).sum + (13 * (names.length + 1) + 43) ≤ R.locals := by exact ⟨Nat.le_of_ble_eq_true rfl, Nat.le_of_ble_eq_true rfl⟩) (hm : kc + 1 ≤ mc ∧ ks + 6 ≤ ms) (hm2 : kc + 1 ≤ R.cells ∧ ks + 6 ≤ R.slots)
    (hx : ∀ n, mN M ≤ n → PX cls (sN M n)) : SWG G mi R (QF G PR PX mc ms) pc L st M kc ks := by
  intro p l e s m args below meth c E ls H locs hl hR hf
  have hts := E.2.2.2.2.1
  have hat : ∀ w ∈ vx_atS mi.1 ic cls names, w ∈ wG := fun w hw => by
    have h := List.all_eq_true.mp hk.2.2 w hw
    simp only [Bool.and_eq_true, decide_eq_true_eq] at h
    exact wG_of h.1 h.2
  obtain ⟨sa, hsa⟩ := E.2.2.2.2.2.2.2.1.2.2.2.2.2.2.2.2.1 _ hs
  have hg := E.2.2.2.2.2.2.2.1
  have hU : vx_Zq Bundle.tN "UNASSIGNED_STACK" Bundle.steD (fun q => gB G ≤ q) s s.heap := vx_Zq.moved E.2.2.2.2.2.2.1.alike (vx_Zq.kept (H1 := s.heap) hg.2.2.2.1 (fun a _ h2 => E.2.2.2.2.2.2.2.2.2.2.2.1 a (by omega)))
  have hN : vx_Zq Bundle.tN "SUPPRESSED_SENTINEL" Bundle.listD (fun q => gB G ≤ q) s s.heap := vx_Zq.moved E.2.2.2.2.2.2.1.alike (vx_Zq.kept (H1 := s.heap) hg.2.2.2.2.1 (fun a _ h2 => E.2.2.2.2.2.2.2.2.2.2.2.1 a (by omega)))
  intro T hT X
  refine vx_throwS (names := names) E.1 E.2.1 hg.1 E.2.2.2.1 hcls (fun n hn => List.all_eq_true.mp hnames n hn) (hts _ hk.1) (hts _ hk.2.1) (vk_R.warm E.2.2.2.2.2.2.1 hsa) (fun w hw => hts w (hat w hw)) (fun w hw => ?_) hU hN (amb_S E hR hf X hT) (hl.1.trans E.2.2.1.symm) d0 d3 d4 d6 d9 (fun x hx => ?_) hR1.1 hR1.2 hm2.1 hm2.2 E.2.2.2.2.2.1 (fun t _ g2 g3 => ?_) hf hm.1 hm.2 T hT X
  · have hwG : w ∈ wG := by
      rcases List.mem_cons.mp hw with h | h
      · rw [h]; exact hk.1
      · rcases List.mem_cons.mp h with h | h
        · rw [h]; exact hk.2.1
        · exact hat w h
    unfold vx_ot
    rw [wG_good w hwG, Bool.or_true]
  · rw [E.2.2.2.2.2.2.2.2.2.2.1, hh] at hx
    exact nomatch hx
  · refine ⟨sN M t.heap.size, ⟨rfl, ?_, fun a ha => ?_, fun a t' z hz => ?_⟩, hx _ (by rw [← hR.1]; exact g2)⟩
    · show gB G ≤ t.heap.size
      have := hR.2.1
      have := hR.1
      omega
    · rw [g3 a (by have := hR.2.1; have := hR.1; omega)]; exact hR.2.2.1 a ha
    · obtain ⟨q1, q2, q3, q4⟩ := hR.2.2.2 a t' z hz
      have hlt : a < H.size := by rw [hR.1]; exact q1
      refine ⟨Nat.lt_of_lt_of_le hlt g2, q2, fun ht => ?_, fun ht => ?_⟩
      · obtain ⟨cell, c1, c2⟩ := q3 ht
        exact ⟨cell, by rw [g3 a hlt]; exact c1, c2⟩
      · rw [g3 a hlt]; exact q4 ht
/-- caught by the handler whose row of the table stands behind the rows pre -/
theorem r_catch {E0 nm : String} (pre : List (Nat × Nat × Nat × Nat)) (x : Nat × Nat × Nat × Nat) (suf : List (Nat × Nat × Nat × Nat)) (hsplit : mi.2.2.2.2.2 = pre ++ x :: suf) (hpass : ∀ z ∈ pre, ∃ nm : String, Cond.classLink mi.1 z.2.2.2 nm ∈ wG ∧ (E0, nm) ∈ gNot) (hp0 : ∀ z ∈ pre, z.2.2.2 ≠ 0) (hx : covers ⟨x.1, x.2.1, x.2.2.1, x.2.2.2⟩ pc = true) (h0 : x.2.2.2 ≠ 0)
    (hlink : Cond.classLink mi.1 x.2.2.2 nm ∈ wG) (hcast : (E0, nm) ∈ gCast) (k : ∀ q, SWG G mi R Qf x.2.2.1 L [.ref q] M kc ks) : SXG G mi R Qf pc L M kc ks E0 := by
  intro p l e s m args below meth c E ls H locs hl hRel hf q ce rest hq hv hcl
  have hts := E.2.2.2.2.1
  have hg := E.2.2.2.2.2.2.2.1
  refine vx_catch E.2.2.2.1 (pre.map fun q => ⟨q.1, q.2.1, q.2.2.1, q.2.2.2⟩) ⟨x.1, x.2.1, x.2.2.1, x.2.2.2⟩ (suf.map fun q => ⟨q.1, q.2.1, q.2.2.1, q.2.2.2⟩) ?_ (fun z hz => ?_) hx h0 (hts _ hlink) (va_Nw.use (A := args) rfl (va_Nw.warmC E.2.2.2.2.2.2.1 (hg.2.2.2.2.2.2.1 _ hcast))) hq hv hcl (k q p l e s m args below meth c E ls H locs hl hRel hf)
  · rw [E.2.2.2.2.2.2.2.2.2.2.1, hsplit]
    simp [tableOf]
  · obtain ⟨y, hy, rfl⟩ := List.mem_map.mp hz
    obtain ⟨nm', g1, g2⟩ := hpass y hy
    exact Or.inr ⟨hp0 y hy, nm', hts _ g1, (hg.2.2.2.2.2.2.2.1 _ g2).moved E.2.2.2.2.2.2.1.alike⟩
end NW1
end
section
/-! The JDK's natives under a growing list; switches. -/
section JD1
variable {G : GC} {mi : MI} {R : Room} {Qf : List Frame → Array Value → State → State → Prop} {pc : Nat} {L : List (Nat × Value)} {st : List Value} {M : Mem} {kc ks : Nat}
theorem w_gc : Cond.selects "[Ljava/lang/Object;" gcN gcN ∈ wG ∧ Cond.instanceMethod gcN ∈ wG ∧ Cond.native gcN ∈ wG := ⟨wG_of (by decide +kernel) (by decide +kernel), wG_of (by decide +kernel) (by decide +kernel), wG_of (by decide +kernel) (by decide +kernel)⟩
theorem w_ac : Cond.native arraycopyName ∈ wG ∧ Cond.static arraycopyName ∈ wG ∧ Cond.initialized "java/lang/System" ∈ wG := ⟨wG_of (by decide +kernel) (by decide +kernel), wG_of (by decide +kernel) (by decide +kernel), wG_of (by decide +kernel) (by decide +kernel)⟩
theorem r_ldcM {idx mir : Nat} (w : Cond.classLink mi.1 idx "[Ljava/lang/Object;" ∈ wG) (hM : va_Mi "[Ljava/lang/Object;" mir G.1) (d : decode mi.2.1 pc = .ok (.ldc idx, 2)) (k : SWG G mi R Qf (pc + 2) L (.ref mir :: st) M kc ks) : SWG G mi R Qf pc L st M kc ks := by
  intro p l e s m args below meth c E ls H locs hl hR hf
  exact va_ldcM E.1 E.2.1 E.2.2.2.1 (E.2.2.2.2.1 _ w) (va_Mi.moved E.2.2.2.2.2.2.1.alike hM) d (k p l e s m args below meth c E ls H locs hl hR hf)
theorem r_getC {a n idx : Nat} (w : Cond.methodLink mi.1 idx gcN ∈ wG) (hc : mC M a = some (13, n)) (d : decode mi.2.1 pc = .ok (.invokevirtual idx, 3)) (hR1 : 1 ≤ R.frames ∧ (st.map fun v => v.category).sum + 14 ≤ R.locals := by exact ⟨Nat.le_of_ble_eq_true rfl, Nat.le_of_ble_eq_true rfl⟩) (k : ∀ mir, va_Mi "[Ljava/lang/Object;" mir G.1 → SWG G mi R Qf (pc + 3) L (.ref mir :: st) M kc ks) : SWG G mi R Qf pc L (.ref a :: st) M kc ks := by
  intro p l e s m args below meth c E ls H locs hl hR hf
  have hts := E.2.2.2.2.1
  obtain ⟨⟨mir, hM⟩, hDc⟩ := E.2.2.2.2.2.2.2.1.2.2.2.2.2.2.2.2.2.2
  have hA := av_arr hR hc (by omega)
  have hRA := (amb_arr E (t := 13) (by omega) (by omega)).2
  exact va_getC E.1 E.2.1 (E.2.2.1.trans hl.1.symm) E.2.2.2.1 (hts _ w) (va_Dc.use (va_Dc.moved E.2.2.2.2.2.2.1.alike hDc)) (hts _ w_gc.1) (hts _ w_gc.2.1) (hts _ w_gc.2.2) (va_Mi.moved E.2.2.2.2.2.2.1.alike hM) ⟨_, hA, rfl, va_nmO hRA rfl⟩ hR1.1 hR1.2 d (k mir hM p l e s m args below meth c E ls H locs hl hR hf)
/-- System.arraycopy of a whole row of known objects to the begin of a longer one -/
theorem r_copy {a b n0 n1 n idx : Nat} (w : Cond.methodLink mi.1 idx arraycopyName ∈ wG) (ha : mC M a = some (13, n0)) (hb : mC M b = some (13, n1)) (hab : b ≠ a) (hn0 : n ≤ n0) (hn1 : n ≤ n1) (hs : n0 ≤ 100000) (hel : ∀ i, i < n → ∀ y, mQ M a i = some y → ∃ t, t < 11 ∧ mC M y = some (t, 0)) (d : decode mi.2.1 pc = .ok (.invokestatic idx, 3))
    (hR1 : 1 ≤ R.frames ∧ (st.map fun v => v.category).sum + (nativeFrameWords "java/lang/System" "arraycopy" 5 + 11) ≤ R.locals := by exact ⟨Nat.le_of_ble_eq_true rfl, Nat.le_of_ble_eq_true rfl⟩) (k : SWG G mi R Qf (pc + 3) L st (sQ M b (va_cpy (mQ M a) (mQ M b) 0 0 n)) kc ks) : SWG G mi R Qf pc L (.int (iz (n : Int)) :: .int (iz 0) :: .ref b :: .int (iz 0) :: .ref a :: st) M kc ks := by
  intro p l e s m args below meth c E ls H locs hl hR hf
  have hts := E.2.2.2.2.1
  have hcl := iz_clamp (n := n) (by omega)
  have hneg : ¬ iz (n : Int) < 0 := by rw [← iz_nI]; exact nI_pos (by omega)
  have h0 : ¬ iz 0 < 0 := by decide +kernel
  have hz : (iz 0).toNatClampNeg = 0 := by decide +kernel
  have hA := av_arr hR ha (by omega)
  have hB := av_arr hR hb (by omega)
  have hT := amb_arr E (t := 13) (by omega) (by omega)
  have hS0 := hT.1
  obtain ⟨kA, comp, r1, r2, r3, -⟩ := hT.2
  intro T hTT X
  obtain ⟨vm', X', step⟩ := X.arraycopy E.1 E.2.2.2.1 (hts _ w) (hts _ w_ac.1) (hts _ w_ac.2.1) (hts _ w_ac.2.2) (src := a) (dst := b) (cs := arrV (G.2.2.1 13) n0 (av M 13 a)) (cd := arrV (G.2.2.1 13) n1 (av M 13 b)) (srcPos := iz 0) (destPos := iz 0) (n := iz (n : Int)) (by rw [hTT]; exact hA) (by rw [hTT]; exact hB)
    (fun _ h => by cases h) (fun _ h => by cases h) (fun h => by cases h) (fun h => by cases h) r1 r1 r2 r2 rfl h0 h0 hneg
    (by rw [iz_toInt (by constructor <;> omega), iz_toInt (by constructor <;> omega)]; show ¬ _ > ((arrV _ n0 _).slots.size : Int); rw [arrV_size]; omega)
    (by rw [iz_toInt (by constructor <;> omega), iz_toInt (by constructor <;> omega)]; show ¬ _ > ((arrV _ n1 _).slots.size : Int); rw [arrV_size]; omega)
    (fun vm₁ hal i hi => by
      rw [hcl] at hi
      have e : (arrV (G.2.2.1 13) n0 (av M 13 a)).slots.getD ((iz 0).toNatClampNeg + i) .null = va_rf (mQ M a i) := by
        rw [hz, Nat.zero_add, Array.getD_eq_getD_getElem?, arrV_read _ _ (by omega)]
        rfl
      rw [e]
      cases hy : mQ M a i with
      | none => exact ⟨rfl, trivial⟩
      | some y =>
        obtain ⟨t, ht, hcy⟩ := hel i hi y hy
        obtain ⟨cellV, q1, q2, q3, -⟩ := ((hR.2.2.2 y t 0 hcy).2.2).1 ht
        have hcls := (amb_kn E ht).2
        obtain ⟨kC, hkC, -⟩ := hcls.2
        obtain ⟨kE, hkE, -⟩ := Vm.findClass_spec r3
        obtain ⟨kC', hkC', -⟩ := hal.2.2 _ _ hkC
        obtain ⟨kE', hkE', -⟩ := hal.2.2 _ _ hkE
        refine ⟨rfl, cellV, (show T.heap[y]? = some cellV by rw [hTT]; exact q1), (fun q h => by rw [q3] at h; cases h), ⟨kC', by rw [q2]; exact hkC'⟩, ⟨kE', hkE'⟩, ?_⟩
        have hca : va_Nw (.castable (cR t) "java/lang/Object") s := va_Nw.warmC E.2.2.2.2.2.2.1 (E.2.2.2.2.2.2.2.1.2.2.2.2.2.2.1 (cR t, "java/lang/Object") (gCast_obj t ht))
        obtain ⟨c0, t1, f1, f2, f3⟩ := Cond.castable_spec (va_Nw.use (A := args) rfl hca)
        cases hcls.1.symm.trans f1
        cases r3.symm.trans f2
        show vm₁.assignable _ _ = true
        rw [hal.assignable, q2]
        exact f3)
    (g := F0 m pc ls (.int (iz (n : Int)) :: .int (iz 0) :: .ref b :: .int (iz 0) :: .ref a :: st)) rfl (hl.1.trans E.2.2.1.symm) (rest := st) rfl (by rw [E.2.1]; exact d) hR1.1 (by show 2 * 0 + _ + _ ≤ _; omega)
  have hlb : b < H.size := by rw [hR.1]; exact (hR.2.2.2 b 13 n1 hb).1
  have e1 : copied (arrV (G.2.2.1 13) n0 (av M 13 a)) (arrV (G.2.2.1 13) n1 (av M 13 b)) (iz 0) (iz 0) (iz (n : Int)) = arrV (G.2.2.1 13) n1 (fun j => va_rf (va_cpy (mQ M a) (mQ M b) 0 0 n j)) := by
    have h9 := va_copied (fun z => va_rf z) (G.2.2.1 13) (G.2.2.1 13) (mQ M a) (mQ M b) (n0 := n0) (n1 := n1) (sp := (iz 0).toNatClampNeg) (dp := (iz 0).toNatClampNeg) (n := (iz (n : Int)).toNatClampNeg) (by rw [hz, hcl]; omega)
    have h8 : copied (arrV (G.2.2.1 13) n0 (av M 13 a)) (arrV (G.2.2.1 13) n1 (av M 13 b)) (iz 0) (iz 0) (iz (n : Int)) = arrV (G.2.2.1 13) n1 (fun j => va_rf (va_cpy (mQ M a) (mQ M b) (iz 0).toNatClampNeg (iz 0).toNatClampNeg (iz (n : Int)).toNatClampNeg j)) := h9
    rw [hz, hcl] at h8
    exact h8
  rw [e1] at X' step
  have hRel' : Rel G (sQ M b (va_cpy (mQ M a) (mQ M b) 0 0 n)) (H.setIfInBounds b (arrV (G.2.2.1 13) n1 (fun j => va_rf (va_cpy (mQ M a) (mQ M b) 0 0 n j)))) := by
    refine rel_upd hR b ((hR.2.2.2 b 13 n1 hb).2.1 (by omega)) rfl rfl (by simp) (fun q hq => by simp [Array.getElem?_setIfInBounds, Ne.symm hq]) (fun t' z' hz' => ?_) (fun _ _ _ _ => rfl) (fun t' b' hb' => av_of rfl (mQ_sQn _ _ _ _ hb') rfl rfl)
    cases hb.symm.trans hz'
    refine ⟨fun q => by omega, fun _ => ?_⟩
    simp only [Array.getElem?_setIfInBounds, hlb, if_true]
    congr 2
    funext j
    show va_rf _ = va_rf (mQ (sQ M b _) b j)
    rw [mQ_sQ]
  obtain ⟨t, a1, b1⟩ := k p l e s m args below meth c E ls _ _ hl hRel' (fun q hq => (List.mem_append.mp hq).elim (hf q) (fun h => by
    obtain ⟨z, -, hz2⟩ := List.mem_map.mp h
    rw [← hz2]
    exact (hR.2.2.2 b 13 n1 hb).2.1 (by omega))) _ (by rw [← hTT]; rfl) X'
  exact ⟨t, step t a1, b1⟩
end JD1
end
section
theorem dX0_init_0 : decode cX0_init 0 = .ok (.aload_n 0, 1) := by decide +kernel
theorem dX0_init_1 : decode cX0_init 1 = .ok (.invokespecial 3, 3) := by decide +kernel
theorem dX0_init_4 : decode cX0_init 4 = .ok (.aload_n 0, 1) := by decide +kernel
theorem dX0_init_5 : decode cX0_init 5 = .ok (.iload_n 1, 1) := by decide +kernel
theorem dX0_init_6 : decode cX0_init 6 = .ok (.putfield 9, 3) := by decide +kernel
theorem dX0_init_9 : decode cX0_init 9 = .ok (.aload_n 0, 1) := by decide +kernel
theorem dX0_init_10 : decode cX0_init 10 = .ok (.iload_n 2, 1) := by decide +kernel
theorem dX0_init_11 : decode cX0_init 11 = .ok (.putfield 15, 3) := by decide +kernel
theorem dX0_init_14 : decode cX0_init 14 = .ok (.aload_n 0, 1) := by decide +kernel
theorem dX0_init_15 : decode cX0_init 15 = .ok (.iconst 0, 1) := by decide +kernel
theorem dX0_init_16 : decode cX0_init 16 = .ok (.iload_n 1, 1) := by decide +kernel
theorem dX0_init_17 : decode cX0_init 17 = .ok (.iload_n 2, 1) := by decide +kernel
theorem dX0_init_18 : decode cX0_init 18 = .ok (.imul, 1) := by decide +kernel
theorem dX0_init_19 : decode cX0_init 19 = .ok (.invokestatic 18, 3) := by decide +kernel
theorem dX0_init_22 : decode cX0_init 22 = .ok (.newarray .int, 2) := by decide +kernel
theorem dX0_init_24 : decode cX0_init 24 = .ok (.putfield 24, 3) := by decide +kernel
theorem dX0_init_27 : decode cX0_init 27 = .ok (.aload_n 0, 1) := by decide +kernel
theorem dX0_init_28 : decode cX0_init 28 = .ok (.getfield 24, 3) := by decide +kernel
theorem dX0_init_31 : decode cX0_init 31 = .ok (.ldc 28, 2) := by decide +kernel
theorem dX0_init_33 : decode cX0_init 33 = .ok (.invokestatic 29, 3) := by decide +kernel
theorem dX0_init_36 : decode cX0_init 36 = .ok (.return_, 1) := by decide +kernel
theorem dX0_at_0 : decode cX0_at 0 = .ok (.iload_n 1, 1) := by decide +kernel
theorem dX0_at_1 : decode cX0_at 1 = .ok (.ifCond .lt 23, 3) := by decide +kernel
theorem dX0_at_4 : decode cX0_at 4 = .ok (.iload_n 1, 1) := by decide +kernel
theorem dX0_at_5 : decode cX0_at 5 = .ok (.aload_n 0, 1) := by decide +kernel
theorem dX0_at_6 : decode cX0_at 6 = .ok (.getfield 9, 3) := by decide +kernel
theorem dX0_at_9 : decode cX0_at 9 = .ok (.if_icmp .ge 15, 3) := by decide +kernel
theorem dX0_at_12 : decode cX0_at 12 = .ok (.iload_n 2, 1) := by decide +kernel
theorem dX0_at_13 : decode cX0_at 13 = .ok (.ifCond .lt 11, 3) := by decide +kernel
theorem dX0_at_16 : decode cX0_at 16 = .ok (.iload_n 2, 1) := by decide +kernel
theorem dX0_at_17 : decode cX0_at 17 = .ok (.aload_n 0, 1) := by decide +kernel
theorem dX0_at_18 : decode cX0_at 18 = .ok (.getfield 15, 3) := by decide +kernel
theorem dX0_at_21 : decode cX0_at 21 = .ok (.if_icmp .lt 6, 3) := by decide +kernel
theorem dX0_at_24 : decode cX0_at 24 = .ok (.ldc 28, 2) := by decide +kernel
theorem dX0_at_26 : decode cX0_at 26 = .ok (.ireturn, 1) := by decide +kernel
theorem dX0_at_27 : decode cX0_at 27 = .ok (.aload_n 0, 1) := by decide +kernel
theorem dX0_at_28 : decode cX0_at 28 = .ok (.getfield 24, 3) := by decide +kernel
theorem dX0_at_31 : decode cX0_at 31 = .ok (.iload_n 1, 1) := by decide +kernel
theorem dX0_at_32 : decode cX0_at 32 = .ok (.aload_n 0, 1) := by decide +kernel
theorem dX0_at_33 : decode cX0_at 33 = .ok (.getfield 15, 3) := by decide +kernel
theorem dX0_at_36 : decode cX0_at 36 = .ok (.imul, 1) := by decide +kernel
theorem dX0_at_37 : decode cX0_at 37 = .ok (.iload_n 2, 1) := by decide +kernel
theorem dX0_at_38 : decode cX0_at 38 = .ok (.iadd, 1) := by decide +kernel
theorem dX0_at_39 : decode cX0_at 39 = .ok (.iaload, 1) := by decide +kernel
theorem dX0_at_40 : decode cX0_at 40 = .ok (.ireturn, 1) := by decide +kernel
theorem dX0_put_0 : decode cX0_put 0 = .ok (.iload_n 1, 1) := by decide +kernel
theorem dX0_put_1 : decode cX0_put 1 = .ok (.ifCond .lt 37, 3) := by decide +kernel
theorem dX0_put_4 : decode cX0_put 4 = .ok (.iload_n 1, 1) := by decide +kernel
theorem dX0_put_5 : decode cX0_put 5 = .ok (.aload_n 0, 1) := by decide +kernel
theorem dX0_put_6 : decode cX0_put 6 = .ok (.getfield 9, 3) := by decide +kernel
theorem dX0_put_9 : decode cX0_put 9 = .ok (.if_icmp .ge 29, 3) := by decide +kernel
theorem dX0_put_12 : decode cX0_put 12 = .ok (.iload_n 2, 1) := by decide +kernel
theorem dX0_put_13 : decode cX0_put 13 = .ok (.ifCond .lt 25, 3) := by decide +kernel
theorem dX0_put_16 : decode cX0_put 16 = .ok (.iload_n 2, 1) := by decide +kernel
theorem dX0_put_17 : decode cX0_put 17 = .ok (.aload_n 0, 1) := by decide +kernel
theorem dX0_put_18 : decode cX0_put 18 = .ok (.getfield 15, 3) := by decide +kernel
theorem dX0_put_21 : decode cX0_put 21 = .ok (.if_icmp .ge 17, 3) := by decide +kernel
theorem dX0_put_24 : decode cX0_put 24 = .ok (.aload_n 0, 1) := by decide +kernel
theorem dX0_put_25 : decode cX0_put 25 = .ok (.getfield 24, 3) := by decide +kernel
theorem dX0_put_28 : decode cX0_put 28 = .ok (.iload_n 1, 1) := by decide +kernel
theorem dX0_put_29 : decode cX0_put 29 = .ok (.aload_n 0, 1) := by decide +kernel
theorem dX0_put_30 : decode cX0_put 30 = .ok (.getfield 15, 3) := by decide +kernel
theorem dX0_put_33 : decode cX0_put 33 = .ok (.imul, 1) := by decide +kernel
theorem dX0_put_34 : decode cX0_put 34 = .ok (.iload_n 2, 1) := by decide +kernel
theorem dX0_put_35 : decode cX0_put 35 = .ok (.iadd, 1) := by decide +kernel
theorem dX0_put_36 : decode cX0_put 36 = .ok (.iload_n 3, 1) := by decide +kernel
theorem dX0_put_37 : decode cX0_put 37 = .ok (.iastore, 1) := by decide +kernel
theorem dX0_put_38 : decode cX0_put 38 = .ok (.return_, 1) := by decide +kernel
theorem dX0_clearRow_0 : decode cX0_clearRow 0 = .ok (.iconst 0, 1) := by decide +kernel
theorem dX0_clearRow_1 : decode cX0_clearRow 1 = .ok (.istore_n 2, 1) := by decide +kernel
theorem dX0_clearRow_2 : decode cX0_clearRow 2 = .ok (.iload_n 2, 1) := by decide +kernel
theorem dX0_clearRow_3 : decode cX0_clearRow 3 = .ok (.aload_n 0, 1) := by decide +kernel
theorem dX0_clearRow_4 : decode cX0_clearRow 4 = .ok (.getfield 15, 3) := by decide +kernel
theorem dX0_clearRow_7 : decode cX0_clearRow 7 = .ok (.if_icmp .ge 17, 3) := by decide +kernel
theorem dX0_clearRow_10 : decode cX0_clearRow 10 = .ok (.aload_n 0, 1) := by decide +kernel
theorem dX0_clearRow_11 : decode cX0_clearRow 11 = .ok (.iload_n 1, 1) := by decide +kernel
theorem dX0_clearRow_12 : decode cX0_clearRow 12 = .ok (.iload_n 2, 1) := by decide +kernel
theorem dX0_clearRow_13 : decode cX0_clearRow 13 = .ok (.ldc 28, 2) := by decide +kernel
theorem dX0_clearRow_15 : decode cX0_clearRow 15 = .ok (.invokevirtual 35, 3) := by decide +kernel
theorem dX0_clearRow_18 : decode cX0_clearRow 18 = .ok (.iinc 2 1, 3) := by decide +kernel
theorem dX0_clearRow_21 : decode cX0_clearRow 21 = .ok (.goto (-19), 3) := by decide +kernel
theorem dX0_clearRow_24 : decode cX0_clearRow 24 = .ok (.return_, 1) := by decide +kernel
theorem dX0_lowerRow_0 : decode cX0_lowerRow 0 = .ok (.iload_n 1, 1) := by decide +kernel
theorem dX0_lowerRow_1 : decode cX0_lowerRow 1 = .ok (.ifCond .lt 36, 3) := by decide +kernel
theorem dX0_lowerRow_4 : decode cX0_lowerRow 4 = .ok (.iload_n 1, 1) := by decide +kernel
theorem dX0_lowerRow_5 : decode cX0_lowerRow 5 = .ok (.aload_n 0, 1) := by decide +kernel
theorem dX0_lowerRow_6 : decode cX0_lowerRow 6 = .ok (.getfield 9, 3) := by decide +kernel
theorem dX0_lowerRow_9 : decode cX0_lowerRow 9 = .ok (.if_icmp .ge 28, 3) := by decide +kernel
theorem dX0_lowerRow_12 : decode cX0_lowerRow 12 = .ok (.iload 4, 2) := by decide +kernel
theorem dX0_lowerRow_14 : decode cX0_lowerRow 14 = .ok (.ifCond .lt 23, 3) := by decide +kernel
theorem dX0_lowerRow_17 : decode cX0_lowerRow 17 = .ok (.iload 4, 2) := by decide +kernel
theorem dX0_lowerRow_19 : decode cX0_lowerRow 19 = .ok (.aload_n 3, 1) := by decide +kernel
theorem dX0_lowerRow_20 : decode cX0_lowerRow 20 = .ok (.getfield 9, 3) := by decide +kernel
theorem dX0_lowerRow_23 : decode cX0_lowerRow 23 = .ok (.if_icmp .ge 14, 3) := by decide +kernel
theorem dX0_lowerRow_26 : decode cX0_lowerRow 26 = .ok (.aload_n 0, 1) := by decide +kernel
theorem dX0_lowerRow_27 : decode cX0_lowerRow 27 = .ok (.getfield 15, 3) := by decide +kernel
theorem dX0_lowerRow_30 : decode cX0_lowerRow 30 = .ok (.aload_n 3, 1) := by decide +kernel
theorem dX0_lowerRow_31 : decode cX0_lowerRow 31 = .ok (.getfield 15, 3) := by decide +kernel
theorem dX0_lowerRow_34 : decode cX0_lowerRow 34 = .ok (.if_icmp .eq 4, 3) := by decide +kernel
theorem dX0_lowerRow_37 : decode cX0_lowerRow 37 = .ok (.return_, 1) := by decide +kernel
theorem dX0_lowerRow_38 : decode cX0_lowerRow 38 = .ok (.iload_n 1, 1) := by decide +kernel
theorem dX0_lowerRow_39 : decode cX0_lowerRow 39 = .ok (.aload_n 0, 1) := by decide +kernel
theorem dX0_lowerRow_40 : decode cX0_lowerRow 40 = .ok (.getfield 15, 3) := by decide +kernel
theorem dX0_lowerRow_43 : decode cX0_lowerRow 43 = .ok (.imul, 1) := by decide +kernel
theorem dX0_lowerRow_44 : decode cX0_lowerRow 44 = .ok (.istore 5, 2) := by decide +kernel
theorem dX0_lowerRow_46 : decode cX0_lowerRow 46 = .ok (.iload 4, 2) := by decide +kernel
theorem dX0_lowerRow_48 : decode cX0_lowerRow 48 = .ok (.aload_n 0, 1) := by decide +kernel
theorem dX0_lowerRow_49 : decode cX0_lowerRow 49 = .ok (.getfield 15, 3) := by decide +kernel
theorem dX0_lowerRow_52 : decode cX0_lowerRow 52 = .ok (.imul, 1) := by decide +kernel
theorem dX0_lowerRow_53 : decode cX0_lowerRow 53 = .ok (.istore 6, 2) := by decide +kernel
theorem dX0_lowerRow_55 : decode cX0_lowerRow 55 = .ok (.iconst 0, 1) := by decide +kernel
theorem dX0_lowerRow_56 : decode cX0_lowerRow 56 = .ok (.istore 7, 2) := by decide +kernel
theorem dX0_lowerRow_58 : decode cX0_lowerRow 58 = .ok (.iload 7, 2) := by decide +kernel
theorem dX0_lowerRow_60 : decode cX0_lowerRow 60 = .ok (.aload_n 0, 1) := by decide +kernel
theorem dX0_lowerRow_61 : decode cX0_lowerRow 61 = .ok (.getfield 15, 3) := by decide +kernel
theorem dX0_lowerRow_64 : decode cX0_lowerRow 64 = .ok (.if_icmp .ge 50, 3) := by decide +kernel
theorem dX0_lowerRow_67 : decode cX0_lowerRow 67 = .ok (.iload_n 2, 1) := by decide +kernel
theorem dX0_lowerRow_68 : decode cX0_lowerRow 68 = .ok (.aload_n 3, 1) := by decide +kernel
theorem dX0_lowerRow_69 : decode cX0_lowerRow 69 = .ok (.getfield 24, 3) := by decide +kernel
theorem dX0_lowerRow_72 : decode cX0_lowerRow 72 = .ok (.iload 6, 2) := by decide +kernel
theorem dX0_lowerRow_74 : decode cX0_lowerRow 74 = .ok (.iload 7, 2) := by decide +kernel
theorem dX0_lowerRow_76 : decode cX0_lowerRow 76 = .ok (.iadd, 1) := by decide +kernel
theorem dX0_lowerRow_77 : decode cX0_lowerRow 77 = .ok (.iaload, 1) := by decide +kernel
theorem dX0_lowerRow_78 : decode cX0_lowerRow 78 = .ok (.iadd, 1) := by decide +kernel
theorem dX0_lowerRow_79 : decode cX0_lowerRow 79 = .ok (.istore 8, 2) := by decide +kernel
theorem dX0_lowerRow_81 : decode cX0_lowerRow 81 = .ok (.iload 8, 2) := by decide +kernel
theorem dX0_lowerRow_83 : decode cX0_lowerRow 83 = .ok (.aload_n 0, 1) := by decide +kernel
theorem dX0_lowerRow_84 : decode cX0_lowerRow 84 = .ok (.getfield 24, 3) := by decide +kernel
theorem dX0_lowerRow_87 : decode cX0_lowerRow 87 = .ok (.iload 5, 2) := by decide +kernel
theorem dX0_lowerRow_89 : decode cX0_lowerRow 89 = .ok (.iload 7, 2) := by decide +kernel
theorem dX0_lowerRow_91 : decode cX0_lowerRow 91 = .ok (.iadd, 1) := by decide +kernel
theorem dX0_lowerRow_92 : decode cX0_lowerRow 92 = .ok (.iaload, 1) := by decide +kernel
theorem dX0_lowerRow_93 : decode cX0_lowerRow 93 = .ok (.if_icmp .ge 15, 3) := by decide +kernel
theorem dX0_lowerRow_96 : decode cX0_lowerRow 96 = .ok (.aload_n 0, 1) := by decide +kernel
theorem dX0_lowerRow_97 : decode cX0_lowerRow 97 = .ok (.getfield 24, 3) := by decide +kernel
theorem dX0_lowerRow_100 : decode cX0_lowerRow 100 = .ok (.iload 5, 2) := by decide +kernel
theorem dX0_lowerRow_102 : decode cX0_lowerRow 102 = .ok (.iload 7, 2) := by decide +kernel
theorem dX0_lowerRow_104 : decode cX0_lowerRow 104 = .ok (.iadd, 1) := by decide +kernel
theorem dX0_lowerRow_105 : decode cX0_lowerRow 105 = .ok (.iload 8, 2) := by decide +kernel
theorem dX0_lowerRow_107 : decode cX0_lowerRow 107 = .ok (.iastore, 1) := by decide +kernel
theorem dX0_lowerRow_108 : decode cX0_lowerRow 108 = .ok (.iinc 7 1, 3) := by decide +kernel
theorem dX0_lowerRow_111 : decode cX0_lowerRow 111 = .ok (.goto (-53), 3) := by decide +kernel
theorem dX0_lowerRow_114 : decode cX0_lowerRow 114 = .ok (.return_, 1) := by decide +kernel
theorem dX1_init_0 : decode cX1_init 0 = .ok (.aload_n 0, 1) := by decide +kernel
theorem dX1_init_1 : decode cX1_init 1 = .ok (.invokespecial 1, 3) := by decide +kernel
theorem dX1_init_4 : decode cX1_init 4 = .ok (.aload_n 0, 1) := by decide +kernel
theorem dX1_init_5 : decode cX1_init 5 = .ok (.iload_n 1, 1) := by decide +kernel
theorem dX1_init_6 : decode cX1_init 6 = .ok (.putfield 7, 3) := by decide +kernel
theorem dX1_init_9 : decode cX1_init 9 = .ok (.aload_n 0, 1) := by decide +kernel
theorem dX1_init_10 : decode cX1_init 10 = .ok (.aload_n 2, 1) := by decide +kernel
theorem dX1_init_11 : decode cX1_init 11 = .ok (.putfield 13, 3) := by decide +kernel
theorem dX1_init_14 : decode cX1_init 14 = .ok (.aload_n 0, 1) := by decide +kernel
theorem dX1_init_15 : decode cX1_init 15 = .ok (.iload_n 3, 1) := by decide +kernel
theorem dX1_init_16 : decode cX1_init 16 = .ok (.putfield 17, 3) := by decide +kernel
theorem dX1_init_19 : decode cX1_init 19 = .ok (.aload_n 0, 1) := by decide +kernel
theorem dX1_init_20 : decode cX1_init 20 = .ok (.iload 4, 2) := by decide +kernel
theorem dX1_init_22 : decode cX1_init 22 = .ok (.putfield 20, 3) := by decide +kernel
theorem dX1_init_25 : decode cX1_init 25 = .ok (.return_, 1) := by decide +kernel
theorem dX2_init_0 : decode cX2_init 0 = .ok (.aload_n 0, 1) := by decide +kernel
theorem dX2_init_1 : decode cX2_init 1 = .ok (.invokespecial 1, 3) := by decide +kernel
theorem dX2_init_4 : decode cX2_init 4 = .ok (.aload_n 0, 1) := by decide +kernel
theorem dX2_init_5 : decode cX2_init 5 = .ok (.aload_n 1, 1) := by decide +kernel
theorem dX2_init_6 : decode cX2_init 6 = .ok (.putfield 7, 3) := by decide +kernel
theorem dX2_init_9 : decode cX2_init 9 = .ok (.aload_n 0, 1) := by decide +kernel
theorem dX2_init_10 : decode cX2_init 10 = .ok (.iload_n 2, 1) := by decide +kernel
theorem dX2_init_11 : decode cX2_init 11 = .ok (.putfield 13, 3) := by decide +kernel
theorem dX2_init_14 : decode cX2_init 14 = .ok (.aload_n 0, 1) := by decide +kernel
theorem dX2_init_15 : decode cX2_init 15 = .ok (.iload_n 3, 1) := by decide +kernel
theorem dX2_init_16 : decode cX2_init 16 = .ok (.putfield 17, 3) := by decide +kernel
theorem dX2_init_19 : decode cX2_init 19 = .ok (.return_, 1) := by decide +kernel
theorem dX3_init_0 : decode cX3_init 0 = .ok (.aload_n 0, 1) := by decide +kernel
theorem dX3_init_1 : decode cX3_init 1 = .ok (.invokespecial 1, 3) := by decide +kernel
theorem dX3_init_4 : decode cX3_init 4 = .ok (.aload_n 0, 1) := by decide +kernel
theorem dX3_init_5 : decode cX3_init 5 = .ok (.iload_n 1, 1) := by decide +kernel
theorem dX3_init_6 : decode cX3_init 6 = .ok (.putfield 7, 3) := by decide +kernel
theorem dX3_init_9 : decode cX3_init 9 = .ok (.aload_n 0, 1) := by decide +kernel
theorem dX3_init_10 : decode cX3_init 10 = .ok (.iload_n 2, 1) := by decide +kernel
theorem dX3_init_11 : decode cX3_init 11 = .ok (.putfield 13, 3) := by decide +kernel
theorem dX3_init_14 : decode cX3_init 14 = .ok (.aload_n 0, 1) := by decide +kernel
theorem dX3_init_15 : decode cX3_init 15 = .ok (.iload_n 3, 1) := by decide +kernel
theorem dX3_init_16 : decode cX3_init 16 = .ok (.putfield 16, 3) := by decide +kernel
theorem dX3_init_19 : decode cX3_init 19 = .ok (.aload_n 0, 1) := by decide +kernel
theorem dX3_init_20 : decode cX3_init 20 = .ok (.iload 4, 2) := by decide +kernel
theorem dX3_init_22 : decode cX3_init 22 = .ok (.putfield 19, 3) := by decide +kernel
theorem dX3_init_25 : decode cX3_init 25 = .ok (.return_, 1) := by decide +kernel
theorem dX3_isForward_0 : decode cX3_isForward 0 = .ok (.aload_n 0, 1) := by decide +kernel
theorem dX3_isForward_1 : decode cX3_isForward 1 = .ok (.getfield 7, 3) := by decide +kernel
theorem dX3_isForward_4 : decode cX3_isForward 4 = .ok (.iconst 1, 1) := by decide +kernel
theorem dX3_isForward_5 : decode cX3_isForward 5 = .ok (.iand, 1) := by decide +kernel
theorem dX3_isForward_6 : decode cX3_isForward 6 = .ok (.ifCond .ne 7, 3) := by decide +kernel
theorem dX3_isForward_9 : decode cX3_isForward 9 = .ok (.iconst 1, 1) := by decide +kernel
theorem dX3_isForward_10 : decode cX3_isForward 10 = .ok (.goto 4, 3) := by decide +kernel
theorem dX3_isForward_13 : decode cX3_isForward 13 = .ok (.iconst 0, 1) := by decide +kernel
theorem dX3_isForward_14 : decode cX3_isForward 14 = .ok (.ireturn, 1) := by decide +kernel
theorem dX3_goesBy_0 : decode cX3_goesBy 0 = .ok (.aload_n 1, 1) := by decide +kernel
theorem dX3_goesBy_1 : decode cX3_goesBy 1 = .ok (.getfield 22, 3) := by decide +kernel
theorem dX3_goesBy_4 : decode cX3_goesBy 4 = .ok (.getfield 28, 3) := by decide +kernel
theorem dX3_goesBy_7 : decode cX3_goesBy 7 = .ok (.ifCond .eq 16, 3) := by decide +kernel
theorem dX3_goesBy_10 : decode cX3_goesBy 10 = .ok (.aload_n 1, 1) := by decide +kernel
theorem dX3_goesBy_11 : decode cX3_goesBy 11 = .ok (.getfield 34, 3) := by decide +kernel
theorem dX3_goesBy_14 : decode cX3_goesBy 14 = .ok (.aload_n 0, 1) := by decide +kernel
theorem dX3_goesBy_15 : decode cX3_goesBy 15 = .ok (.getfield 7, 3) := by decide +kernel
theorem dX3_goesBy_18 : decode cX3_goesBy 18 = .ok (.iconst 1, 1) := by decide +kernel
theorem dX3_goesBy_19 : decode cX3_goesBy 19 = .ok (.iand, 1) := by decide +kernel
theorem dX3_goesBy_20 : decode cX3_goesBy 20 = .ok (.if_icmp .ne 7, 3) := by decide +kernel
theorem dX3_goesBy_23 : decode cX3_goesBy 23 = .ok (.iconst 1, 1) := by decide +kernel
theorem dX3_goesBy_24 : decode cX3_goesBy 24 = .ok (.goto 4, 3) := by decide +kernel
theorem dX3_goesBy_27 : decode cX3_goesBy 27 = .ok (.iconst 0, 1) := by decide +kernel
theorem dX3_goesBy_28 : decode cX3_goesBy 28 = .ok (.istore_n 2, 1) := by decide +kernel
theorem dX3_goesBy_29 : decode cX3_goesBy 29 = .ok (.iload_n 2, 1) := by decide +kernel
theorem dX3_goesBy_30 : decode cX3_goesBy 30 = .ok (.ifCond .eq 23, 3) := by decide +kernel
theorem dX3_goesBy_33 : decode cX3_goesBy 33 = .ok (.aload_n 0, 1) := by decide +kernel
theorem dX3_goesBy_34 : decode cX3_goesBy 34 = .ok (.getfield 7, 3) := by decide +kernel
theorem dX3_goesBy_37 : decode cX3_goesBy 37 = .ok (.iconst 1, 1) := by decide +kernel
theorem dX3_goesBy_38 : decode cX3_goesBy 38 = .ok (.ishr, 1) := by decide +kernel
theorem dX3_goesBy_39 : decode cX3_goesBy 39 = .ok (.aload_n 1, 1) := by decide +kernel
theorem dX3_goesBy_40 : decode cX3_goesBy 40 = .ok (.getfield 22, 3) := by decide +kernel
theorem dX3_goesBy_43 : decode cX3_goesBy 43 = .ok (.getfield 37, 3) := by decide +kernel
theorem dX3_goesBy_46 : decode cX3_goesBy 46 = .ok (.if_icmp .ne 7, 3) := by decide +kernel
theorem dX3_goesBy_49 : decode cX3_goesBy 49 = .ok (.iconst 1, 1) := by decide +kernel
theorem dX3_goesBy_50 : decode cX3_goesBy 50 = .ok (.goto 4, 3) := by decide +kernel
theorem dX3_goesBy_53 : decode cX3_goesBy 53 = .ok (.iconst 0, 1) := by decide +kernel
theorem dX3_goesBy_54 : decode cX3_goesBy 54 = .ok (.ireturn, 1) := by decide +kernel
theorem dX3_lengthTo_0 : decode cX3_lengthTo 0 = .ok (.aload_n 0, 1) := by decide +kernel
theorem dX3_lengthTo_1 : decode cX3_lengthTo 1 = .ok (.invokevirtual 38, 3) := by decide +kernel
theorem dX3_lengthTo_4 : decode cX3_lengthTo 4 = .ok (.ifCond .eq 10, 3) := by decide +kernel
theorem dX3_lengthTo_7 : decode cX3_lengthTo 7 = .ok (.aload_n 1, 1) := by decide +kernel
theorem dX3_lengthTo_8 : decode cX3_lengthTo 8 = .ok (.getfield 42, 3) := by decide +kernel
theorem dX3_lengthTo_11 : decode cX3_lengthTo 11 = .ok (.goto 12, 3) := by decide +kernel
theorem dX3_lengthTo_14 : decode cX3_lengthTo 14 = .ok (.aload_n 0, 1) := by decide +kernel
theorem dX3_lengthTo_15 : decode cX3_lengthTo 15 = .ok (.getfield 19, 3) := by decide +kernel
theorem dX3_lengthTo_18 : decode cX3_lengthTo 18 = .ok (.aload_n 1, 1) := by decide +kernel
theorem dX3_lengthTo_19 : decode cX3_lengthTo 19 = .ok (.getfield 42, 3) := by decide +kernel
theorem dX3_lengthTo_22 : decode cX3_lengthTo 22 = .ok (.isub, 1) := by decide +kernel
theorem dX3_lengthTo_23 : decode cX3_lengthTo 23 = .ok (.ireturn, 1) := by decide +kernel
theorem dX4_init_0 : decode cX4_init 0 = .ok (.aload_n 0, 1) := by decide +kernel
theorem dX4_init_1 : decode cX4_init 1 = .ok (.invokespecial 1, 3) := by decide +kernel
theorem dX4_init_4 : decode cX4_init 4 = .ok (.aload_n 0, 1) := by decide +kernel
theorem dX4_init_5 : decode cX4_init 5 = .ok (.iload_n 1, 1) := by decide +kernel
theorem dX4_init_6 : decode cX4_init 6 = .ok (.putfield 7, 3) := by decide +kernel
theorem dX4_init_9 : decode cX4_init 9 = .ok (.return_, 1) := by decide +kernel
theorem dX5_init_0 : decode cX5_init 0 = .ok (.aload_n 0, 1) := by decide +kernel
theorem dX5_init_1 : decode cX5_init 1 = .ok (.invokespecial 3, 3) := by decide +kernel
theorem dX5_init_4 : decode cX5_init 4 = .ok (.aload_n 0, 1) := by decide +kernel
theorem dX5_init_5 : decode cX5_init 5 = .ok (.iload_n 1, 1) := by decide +kernel
theorem dX5_init_6 : decode cX5_init 6 = .ok (.putfield 9, 3) := by decide +kernel
theorem dX5_init_9 : decode cX5_init 9 = .ok (.aload_n 0, 1) := by decide +kernel
theorem dX5_init_10 : decode cX5_init 10 = .ok (.iload_n 2, 1) := by decide +kernel
theorem dX5_init_11 : decode cX5_init 11 = .ok (.putfield 15, 3) := by decide +kernel
theorem dX5_init_14 : decode cX5_init 14 = .ok (.aload_n 0, 1) := by decide +kernel
theorem dX5_init_15 : decode cX5_init 15 = .ok (.iload 4, 2) := by decide +kernel
theorem dX5_init_17 : decode cX5_init 17 = .ok (.putfield 18, 3) := by decide +kernel
theorem dX5_init_20 : decode cX5_init 20 = .ok (.aload_n 0, 1) := by decide +kernel
theorem dX5_init_21 : decode cX5_init 21 = .ok (.iload 5, 2) := by decide +kernel
theorem dX5_init_23 : decode cX5_init 23 = .ok (.putfield 21, 3) := by decide +kernel
theorem dX5_init_26 : decode cX5_init 26 = .ok (.aload_n 0, 1) := by decide +kernel
theorem dX5_init_27 : decode cX5_init 27 = .ok (.new 25, 3) := by decide +kernel
theorem dX5_init_30 : decode cX5_init 30 = .ok (.dup, 1) := by decide +kernel
theorem dX5_init_31 : decode cX5_init 31 = .ok (.iconst 2, 1) := by decide +kernel
theorem dX5_init_32 : decode cX5_init 32 = .ok (.iload_n 1, 1) := by decide +kernel
theorem dX5_init_33 : decode cX5_init 33 = .ok (.imul, 1) := by decide +kernel
theorem dX5_init_34 : decode cX5_init 34 = .ok (.iload_n 2, 1) := by decide +kernel
theorem dX5_init_35 : decode cX5_init 35 = .ok (.iload_n 3, 1) := by decide +kernel
theorem dX5_init_36 : decode cX5_init 36 = .ok (.iload 4, 2) := by decide +kernel
theorem dX5_init_38 : decode cX5_init 38 = .ok (.invokespecial 27, 3) := by decide +kernel
theorem dX5_init_41 : decode cX5_init 41 = .ok (.putfield 30, 3) := by decide +kernel
theorem dX5_init_44 : decode cX5_init 44 = .ok (.aload_n 0, 1) := by decide +kernel
theorem dX5_init_45 : decode cX5_init 45 = .ok (.new 25, 3) := by decide +kernel
theorem dX5_init_48 : decode cX5_init 48 = .ok (.dup, 1) := by decide +kernel
theorem dX5_init_49 : decode cX5_init 49 = .ok (.iconst 2, 1) := by decide +kernel
theorem dX5_init_50 : decode cX5_init 50 = .ok (.iload_n 1, 1) := by decide +kernel
theorem dX5_init_51 : decode cX5_init 51 = .ok (.imul, 1) := by decide +kernel
theorem dX5_init_52 : decode cX5_init 52 = .ok (.iconst 1, 1) := by decide +kernel
theorem dX5_init_53 : decode cX5_init 53 = .ok (.iadd, 1) := by decide +kernel
theorem dX5_init_54 : decode cX5_init 54 = .ok (.iload_n 3, 1) := by decide +kernel
theorem dX5_init_55 : decode cX5_init 55 = .ok (.iload_n 2, 1) := by decide +kernel
theorem dX5_init_56 : decode cX5_init 56 = .ok (.iload 4, 2) := by decide +kernel
theorem dX5_init_58 : decode cX5_init 58 = .ok (.invokespecial 27, 3) := by decide +kernel
theorem dX5_init_61 : decode cX5_init 61 = .ok (.putfield 34, 3) := by decide +kernel
theorem dX5_init_64 : decode cX5_init 64 = .ok (.aload_n 0, 1) := by decide +kernel
theorem dX5_init_65 : decode cX5_init 65 = .ok (.iconst (-1), 1) := by decide +kernel
theorem dX5_init_66 : decode cX5_init 66 = .ok (.putfield 37, 3) := by decide +kernel
theorem dX5_init_69 : decode cX5_init 69 = .ok (.return_, 1) := by decide +kernel
theorem dX6_init_0 : decode cX6_init 0 = .ok (.aload_n 0, 1) := by decide +kernel
theorem dX6_init_1 : decode cX6_init 1 = .ok (.invokespecial 3, 3) := by decide +kernel
theorem dX6_init_4 : decode cX6_init 4 = .ok (.aload_n 0, 1) := by decide +kernel
theorem dX6_init_5 : decode cX6_init 5 = .ok (.aload_n 1, 1) := by decide +kernel
theorem dX6_init_6 : decode cX6_init 6 = .ok (.putfield 9, 3) := by decide +kernel
theorem dX6_init_9 : decode cX6_init 9 = .ok (.aload_n 0, 1) := by decide +kernel
theorem dX6_init_10 : decode cX6_init 10 = .ok (.new 15, 3) := by decide +kernel
theorem dX6_init_13 : decode cX6_init 13 = .ok (.dup, 1) := by decide +kernel
theorem dX6_init_14 : decode cX6_init 14 = .ok (.invokespecial 17, 3) := by decide +kernel
theorem dX6_init_17 : decode cX6_init 17 = .ok (.putfield 18, 3) := by decide +kernel
theorem dX6_init_20 : decode cX6_init 20 = .ok (.aload_n 0, 1) := by decide +kernel
theorem dX6_init_21 : decode cX6_init 21 = .ok (.new 22, 3) := by decide +kernel
theorem dX6_init_24 : decode cX6_init 24 = .ok (.dup, 1) := by decide +kernel
theorem dX6_init_25 : decode cX6_init 25 = .ok (.sipush 256, 3) := by decide +kernel
theorem dX6_init_28 : decode cX6_init 28 = .ok (.bipush 10, 2) := by decide +kernel
theorem dX6_init_30 : decode cX6_init 30 = .ok (.invokespecial 24, 3) := by decide +kernel
theorem dX6_init_33 : decode cX6_init 33 = .ok (.putfield 27, 3) := by decide +kernel
theorem dX6_init_36 : decode cX6_init 36 = .ok (.aload_n 0, 1) := by decide +kernel
theorem dX6_init_37 : decode cX6_init 37 = .ok (.new 15, 3) := by decide +kernel
theorem dX6_init_40 : decode cX6_init 40 = .ok (.dup, 1) := by decide +kernel
theorem dX6_init_41 : decode cX6_init 41 = .ok (.invokespecial 17, 3) := by decide +kernel
theorem dX6_init_44 : decode cX6_init 44 = .ok (.putfield 31, 3) := by decide +kernel
theorem dX6_init_47 : decode cX6_init 47 = .ok (.aload_n 0, 1) := by decide +kernel
theorem dX6_init_48 : decode cX6_init 48 = .ok (.bipush 90, 2) := by decide +kernel
theorem dX6_init_50 : decode cX6_init 50 = .ok (.newarray .int, 2) := by decide +kernel
theorem dX6_init_52 : decode cX6_init 52 = .ok (.putfield 34, 3) := by decide +kernel
theorem dX6_init_55 : decode cX6_init 55 = .ok (.return_, 1) := by decide +kernel
theorem dX6_clear_0 : decode cX6_clear 0 = .ok (.aload_n 0, 1) := by decide +kernel
theorem dX6_clear_1 : decode cX6_clear 1 = .ok (.getfield 18, 3) := by decide +kernel
theorem dX6_clear_4 : decode cX6_clear 4 = .ok (.invokevirtual 38, 3) := by decide +kernel
theorem dX6_clear_7 : decode cX6_clear 7 = .ok (.aload_n 0, 1) := by decide +kernel
theorem dX6_clear_8 : decode cX6_clear 8 = .ok (.iconst 0, 1) := by decide +kernel
theorem dX6_clear_9 : decode cX6_clear 9 = .ok (.putfield 41, 3) := by decide +kernel
theorem dX6_clear_12 : decode cX6_clear 12 = .ok (.return_, 1) := by decide +kernel
theorem dX6_addNeeds_0 : decode cX6_addNeeds 0 = .ok (.iload_n 2, 1) := by decide +kernel
theorem dX6_addNeeds_1 : decode cX6_addNeeds 1 = .ok (.iconst 1, 1) := by decide +kernel
theorem dX6_addNeeds_2 : decode cX6_addNeeds 2 = .ok (.iand, 1) := by decide +kernel
theorem dX6_addNeeds_3 : decode cX6_addNeeds 3 = .ok (.ifCond .eq 7, 3) := by decide +kernel
theorem dX6_addNeeds_6 : decode cX6_addNeeds 6 = .ok (.iconst 1, 1) := by decide +kernel
theorem dX6_addNeeds_7 : decode cX6_addNeeds 7 = .ok (.goto 4, 3) := by decide +kernel
theorem dX6_addNeeds_10 : decode cX6_addNeeds 10 = .ok (.iconst 0, 1) := by decide +kernel
theorem dX6_addNeeds_11 : decode cX6_addNeeds 11 = .ok (.istore_n 3, 1) := by decide +kernel
theorem dX6_addNeeds_12 : decode cX6_addNeeds 12 = .ok (.iload_n 2, 1) := by decide +kernel
theorem dX6_addNeeds_13 : decode cX6_addNeeds 13 = .ok (.iconst 2, 1) := by decide +kernel
theorem dX6_addNeeds_14 : decode cX6_addNeeds 14 = .ok (.iand, 1) := by decide +kernel
theorem dX6_addNeeds_15 : decode cX6_addNeeds 15 = .ok (.ifCond .eq 7, 3) := by decide +kernel
theorem dX6_addNeeds_18 : decode cX6_addNeeds 18 = .ok (.iconst 1, 1) := by decide +kernel
theorem dX6_addNeeds_19 : decode cX6_addNeeds 19 = .ok (.goto 4, 3) := by decide +kernel
theorem dX6_addNeeds_22 : decode cX6_addNeeds 22 = .ok (.iconst 0, 1) := by decide +kernel
theorem dX6_addNeeds_23 : decode cX6_addNeeds 23 = .ok (.istore 4, 2) := by decide +kernel
theorem dX6_addNeeds_25 : decode cX6_addNeeds 25 = .ok (.aload_n 1, 1) := by decide +kernel
theorem dX6_addNeeds_26 : decode cX6_addNeeds 26 = .ok (.getfield 45, 3) := by decide +kernel
theorem dX6_addNeeds_29 : decode cX6_addNeeds 29 = .ok (.ifCond .ne 33, 3) := by decide +kernel
theorem dX6_addNeeds_32 : decode cX6_addNeeds 32 = .ok (.iload_n 2, 1) := by decide +kernel
theorem dX6_addNeeds_33 : decode cX6_addNeeds 33 = .ok (.ifCond .eq 29, 3) := by decide +kernel
theorem dX6_addNeeds_36 : decode cX6_addNeeds 36 = .ok (.aload_n 0, 1) := by decide +kernel
theorem dX6_addNeeds_37 : decode cX6_addNeeds 37 = .ok (.aload_n 1, 1) := by decide +kernel
theorem dX6_addNeeds_38 : decode cX6_addNeeds 38 = .ok (.getfield 51, 3) := by decide +kernel
theorem dX6_addNeeds_41 : decode cX6_addNeeds 41 = .ok (.invokevirtual 55, 3) := by decide +kernel
theorem dX6_addNeeds_44 : decode cX6_addNeeds 44 = .ok (.aload_n 0, 1) := by decide +kernel
theorem dX6_addNeeds_45 : decode cX6_addNeeds 45 = .ok (.aload_n 1, 1) := by decide +kernel
theorem dX6_addNeeds_46 : decode cX6_addNeeds 46 = .ok (.getfield 59, 3) := by decide +kernel
theorem dX6_addNeeds_49 : decode cX6_addNeeds 49 = .ok (.invokevirtual 55, 3) := by decide +kernel
theorem dX6_addNeeds_52 : decode cX6_addNeeds 52 = .ok (.aload_n 0, 1) := by decide +kernel
theorem dX6_addNeeds_53 : decode cX6_addNeeds 53 = .ok (.dup, 1) := by decide +kernel
theorem dX6_addNeeds_54 : decode cX6_addNeeds 54 = .ok (.getfield 41, 3) := by decide +kernel
theorem dX6_addNeeds_57 : decode cX6_addNeeds 57 = .ok (.iconst 1, 1) := by decide +kernel
theorem dX6_addNeeds_58 : decode cX6_addNeeds 58 = .ok (.iadd, 1) := by decide +kernel
theorem dX6_addNeeds_59 : decode cX6_addNeeds 59 = .ok (.putfield 41, 3) := by decide +kernel
theorem dX6_addNeeds_62 : decode cX6_addNeeds 62 = .ok (.aload_n 1, 1) := by decide +kernel
theorem dX6_addNeeds_63 : decode cX6_addNeeds 63 = .ok (.getfield 45, 3) := by decide +kernel
theorem dX6_addNeeds_66 : decode cX6_addNeeds 66 = .ok (.ifCond .eq 25, 3) := by decide +kernel
theorem dX6_addNeeds_69 : decode cX6_addNeeds 69 = .ok (.iload_n 3, 1) := by decide +kernel
theorem dX6_addNeeds_70 : decode cX6_addNeeds 70 = .ok (.ifCond .eq 21, 3) := by decide +kernel
theorem dX6_addNeeds_73 : decode cX6_addNeeds 73 = .ok (.aload_n 0, 1) := by decide +kernel
theorem dX6_addNeeds_74 : decode cX6_addNeeds 74 = .ok (.aload_n 1, 1) := by decide +kernel
theorem dX6_addNeeds_75 : decode cX6_addNeeds 75 = .ok (.getfield 51, 3) := by decide +kernel
theorem dX6_addNeeds_78 : decode cX6_addNeeds 78 = .ok (.invokevirtual 55, 3) := by decide +kernel
theorem dX6_addNeeds_81 : decode cX6_addNeeds 81 = .ok (.aload_n 0, 1) := by decide +kernel
theorem dX6_addNeeds_82 : decode cX6_addNeeds 82 = .ok (.dup, 1) := by decide +kernel
theorem dX6_addNeeds_83 : decode cX6_addNeeds 83 = .ok (.getfield 41, 3) := by decide +kernel
theorem dX6_addNeeds_86 : decode cX6_addNeeds 86 = .ok (.iconst 1, 1) := by decide +kernel
theorem dX6_addNeeds_87 : decode cX6_addNeeds 87 = .ok (.iadd, 1) := by decide +kernel
theorem dX6_addNeeds_88 : decode cX6_addNeeds 88 = .ok (.putfield 41, 3) := by decide +kernel
theorem dX6_addNeeds_91 : decode cX6_addNeeds 91 = .ok (.aload_n 1, 1) := by decide +kernel
theorem dX6_addNeeds_92 : decode cX6_addNeeds 92 = .ok (.getfield 45, 3) := by decide +kernel
theorem dX6_addNeeds_95 : decode cX6_addNeeds 95 = .ok (.ifCond .eq 26, 3) := by decide +kernel
theorem dX6_addNeeds_98 : decode cX6_addNeeds 98 = .ok (.iload 4, 2) := by decide +kernel
theorem dX6_addNeeds_100 : decode cX6_addNeeds 100 = .ok (.ifCond .eq 21, 3) := by decide +kernel
theorem dX6_addNeeds_103 : decode cX6_addNeeds 103 = .ok (.aload_n 0, 1) := by decide +kernel
theorem dX6_addNeeds_104 : decode cX6_addNeeds 104 = .ok (.aload_n 1, 1) := by decide +kernel
theorem dX6_addNeeds_105 : decode cX6_addNeeds 105 = .ok (.getfield 59, 3) := by decide +kernel
theorem dX6_addNeeds_108 : decode cX6_addNeeds 108 = .ok (.invokevirtual 55, 3) := by decide +kernel
theorem dX6_addNeeds_111 : decode cX6_addNeeds 111 = .ok (.aload_n 0, 1) := by decide +kernel
theorem dX6_addNeeds_112 : decode cX6_addNeeds 112 = .ok (.dup, 1) := by decide +kernel
theorem dX6_addNeeds_113 : decode cX6_addNeeds 113 = .ok (.getfield 41, 3) := by decide +kernel
theorem dX6_addNeeds_116 : decode cX6_addNeeds 116 = .ok (.iconst 1, 1) := by decide +kernel
theorem dX6_addNeeds_117 : decode cX6_addNeeds 117 = .ok (.iadd, 1) := by decide +kernel
theorem dX6_addNeeds_118 : decode cX6_addNeeds 118 = .ok (.putfield 41, 3) := by decide +kernel
theorem dX6_addNeeds_121 : decode cX6_addNeeds 121 = .ok (.return_, 1) := by decide +kernel
theorem dX6_addChoice_0 : decode cX6_addChoice 0 = .ok (.aload_n 1, 1) := by decide +kernel
theorem dX6_addChoice_1 : decode cX6_addChoice 1 = .ok (.iconst 1, 1) := by decide +kernel
theorem dX6_addChoice_2 : decode cX6_addChoice 2 = .ok (.aload_n 0, 1) := by decide +kernel
theorem dX6_addChoice_3 : decode cX6_addChoice 3 = .ok (.getfield 41, 3) := by decide +kernel
theorem dX6_addChoice_6 : decode cX6_addChoice 6 = .ok (.ishl, 1) := by decide +kernel
theorem dX6_addChoice_7 : decode cX6_addChoice 7 = .ok (.putfield 62, 3) := by decide +kernel
theorem dX6_addChoice_10 : decode cX6_addChoice 10 = .ok (.aload_n 0, 1) := by decide +kernel
theorem dX6_addChoice_11 : decode cX6_addChoice 11 = .ok (.getfield 18, 3) := by decide +kernel
theorem dX6_addChoice_14 : decode cX6_addChoice 14 = .ok (.aload_n 1, 1) := by decide +kernel
theorem dX6_addChoice_15 : decode cX6_addChoice 15 = .ok (.invokevirtual 67, 3) := by decide +kernel
theorem dX6_addChoice_18 : decode cX6_addChoice 18 = .ok (.pop, 1) := by decide +kernel
theorem dX6_addChoice_19 : decode cX6_addChoice 19 = .ok (.return_, 1) := by decide +kernel
theorem dX6_allNeeds_0 : decode cX6_allNeeds 0 = .ok (.aload_n 0, 1) := by decide +kernel
theorem dX6_allNeeds_1 : decode cX6_allNeeds 1 = .ok (.getfield 41, 3) := by decide +kernel
theorem dX6_allNeeds_4 : decode cX6_allNeeds 4 = .ok (.bipush 8, 2) := by decide +kernel
theorem dX6_allNeeds_6 : decode cX6_allNeeds 6 = .ok (.if_icmp .le 7, 3) := by decide +kernel
theorem dX6_allNeeds_9 : decode cX6_allNeeds 9 = .ok (.iconst 0, 1) := by decide +kernel
theorem dX6_allNeeds_10 : decode cX6_allNeeds 10 = .ok (.goto 11, 3) := by decide +kernel
theorem dX6_allNeeds_13 : decode cX6_allNeeds 13 = .ok (.iconst 1, 1) := by decide +kernel
theorem dX6_allNeeds_14 : decode cX6_allNeeds 14 = .ok (.aload_n 0, 1) := by decide +kernel
theorem dX6_allNeeds_15 : decode cX6_allNeeds 15 = .ok (.getfield 41, 3) := by decide +kernel
theorem dX6_allNeeds_18 : decode cX6_allNeeds 18 = .ok (.ishl, 1) := by decide +kernel
theorem dX6_allNeeds_19 : decode cX6_allNeeds 19 = .ok (.iconst 1, 1) := by decide +kernel
theorem dX6_allNeeds_20 : decode cX6_allNeeds 20 = .ok (.isub, 1) := by decide +kernel
theorem dX6_allNeeds_21 : decode cX6_allNeeds 21 = .ok (.ireturn, 1) := by decide +kernel
theorem dX6_isPossible_0 : decode cX6_isPossible 0 = .ok (.iconst 0, 1) := by decide +kernel
theorem dX6_isPossible_1 : decode cX6_isPossible 1 = .ok (.istore_n 1, 1) := by decide +kernel
theorem dX6_isPossible_2 : decode cX6_isPossible 2 = .ok (.iload_n 1, 1) := by decide +kernel
theorem dX6_isPossible_3 : decode cX6_isPossible 3 = .ok (.aload_n 0, 1) := by decide +kernel
theorem dX6_isPossible_4 : decode cX6_isPossible 4 = .ok (.getfield 18, 3) := by decide +kernel
theorem dX6_isPossible_7 : decode cX6_isPossible 7 = .ok (.invokevirtual 71, 3) := by decide +kernel
theorem dX6_isPossible_10 : decode cX6_isPossible 10 = .ok (.if_icmp .ge 41, 3) := by decide +kernel
theorem dX6_isPossible_13 : decode cX6_isPossible 13 = .ok (.aload_n 0, 1) := by decide +kernel
theorem dX6_isPossible_14 : decode cX6_isPossible 14 = .ok (.getfield 9, 3) := by decide +kernel
theorem dX6_isPossible_17 : decode cX6_isPossible 17 = .ok (.getfield 75, 3) := by decide +kernel
theorem dX6_isPossible_20 : decode cX6_isPossible 20 = .ok (.iconst 0, 1) := by decide +kernel
theorem dX6_isPossible_21 : decode cX6_isPossible 21 = .ok (.aload_n 0, 1) := by decide +kernel
theorem dX6_isPossible_22 : decode cX6_isPossible 22 = .ok (.getfield 18, 3) := by decide +kernel
theorem dX6_isPossible_25 : decode cX6_isPossible 25 = .ok (.iload_n 1, 1) := by decide +kernel
theorem dX6_isPossible_26 : decode cX6_isPossible 26 = .ok (.invokevirtual 80, 3) := by decide +kernel
theorem dX6_isPossible_29 : decode cX6_isPossible 29 = .ok (.checkcast 63, 3) := by decide +kernel
theorem dX6_isPossible_32 : decode cX6_isPossible 32 = .ok (.getfield 84, 3) := by decide +kernel
theorem dX6_isPossible_35 : decode cX6_isPossible 35 = .ok (.invokevirtual 87, 3) := by decide +kernel
theorem dX6_isPossible_38 : decode cX6_isPossible 38 = .ok (.ldc 91, 2) := by decide +kernel
theorem dX6_isPossible_40 : decode cX6_isPossible 40 = .ok (.if_icmp .lt 5, 3) := by decide +kernel
theorem dX6_isPossible_43 : decode cX6_isPossible 43 = .ok (.iconst 0, 1) := by decide +kernel
theorem dX6_isPossible_44 : decode cX6_isPossible 44 = .ok (.ireturn, 1) := by decide +kernel
theorem dX6_isPossible_45 : decode cX6_isPossible 45 = .ok (.iinc 1 1, 3) := by decide +kernel
theorem dX6_isPossible_48 : decode cX6_isPossible 48 = .ok (.goto (-46), 3) := by decide +kernel
theorem dX6_isPossible_51 : decode cX6_isPossible 51 = .ok (.aload_n 0, 1) := by decide +kernel
theorem dX6_isPossible_52 : decode cX6_isPossible 52 = .ok (.getfield 41, 3) := by decide +kernel
theorem dX6_isPossible_55 : decode cX6_isPossible 55 = .ok (.bipush 8, 2) := by decide +kernel
theorem dX6_isPossible_57 : decode cX6_isPossible 57 = .ok (.if_icmp .gt 7, 3) := by decide +kernel
theorem dX6_isPossible_60 : decode cX6_isPossible 60 = .ok (.iconst 1, 1) := by decide +kernel
theorem dX6_isPossible_61 : decode cX6_isPossible 61 = .ok (.goto 4, 3) := by decide +kernel
theorem dX6_isPossible_64 : decode cX6_isPossible 64 = .ok (.iconst 0, 1) := by decide +kernel
theorem dX6_isPossible_65 : decode cX6_isPossible 65 = .ok (.ireturn, 1) := by decide +kernel
theorem dX6_leastLength_0 : decode cX6_leastLength 0 = .ok (.aload_n 0, 1) := by decide +kernel
theorem dX6_leastLength_1 : decode cX6_leastLength 1 = .ok (.getfield 27, 3) := by decide +kernel
theorem dX6_leastLength_4 : decode cX6_leastLength 4 = .ok (.iconst 0, 1) := by decide +kernel
theorem dX6_leastLength_5 : decode cX6_leastLength 5 = .ok (.invokevirtual 92, 3) := by decide +kernel
theorem dX6_leastLength_8 : decode cX6_leastLength 8 = .ok (.aload_n 0, 1) := by decide +kernel
theorem dX6_leastLength_9 : decode cX6_leastLength 9 = .ok (.getfield 27, 3) := by decide +kernel
theorem dX6_leastLength_12 : decode cX6_leastLength 12 = .ok (.iconst 0, 1) := by decide +kernel
theorem dX6_leastLength_13 : decode cX6_leastLength 13 = .ok (.iconst 0, 1) := by decide +kernel
theorem dX6_leastLength_14 : decode cX6_leastLength 14 = .ok (.aload_n 0, 1) := by decide +kernel
theorem dX6_leastLength_15 : decode cX6_leastLength 15 = .ok (.getfield 9, 3) := by decide +kernel
theorem dX6_leastLength_18 : decode cX6_leastLength 18 = .ok (.getfield 75, 3) := by decide +kernel
theorem dX6_leastLength_21 : decode cX6_leastLength 21 = .ok (.iconst 0, 1) := by decide +kernel
theorem dX6_leastLength_22 : decode cX6_leastLength 22 = .ok (.invokevirtual 96, 3) := by decide +kernel
theorem dX6_leastLength_25 : decode cX6_leastLength 25 = .ok (.iconst 1, 1) := by decide +kernel
theorem dX6_leastLength_26 : decode cX6_leastLength 26 = .ok (.istore_n 1, 1) := by decide +kernel
theorem dX6_leastLength_27 : decode cX6_leastLength 27 = .ok (.iload_n 1, 1) := by decide +kernel
theorem dX6_leastLength_28 : decode cX6_leastLength 28 = .ok (.aload_n 0, 1) := by decide +kernel
theorem dX6_leastLength_29 : decode cX6_leastLength 29 = .ok (.invokevirtual 100, 3) := by decide +kernel
theorem dX6_leastLength_32 : decode cX6_leastLength 32 = .ok (.if_icmp .gt 82, 3) := by decide +kernel
theorem dX6_leastLength_35 : decode cX6_leastLength 35 = .ok (.aload_n 0, 1) := by decide +kernel
theorem dX6_leastLength_36 : decode cX6_leastLength 36 = .ok (.getfield 27, 3) := by decide +kernel
theorem dX6_leastLength_39 : decode cX6_leastLength 39 = .ok (.iload_n 1, 1) := by decide +kernel
theorem dX6_leastLength_40 : decode cX6_leastLength 40 = .ok (.invokevirtual 92, 3) := by decide +kernel
theorem dX6_leastLength_43 : decode cX6_leastLength 43 = .ok (.iconst 0, 1) := by decide +kernel
theorem dX6_leastLength_44 : decode cX6_leastLength 44 = .ok (.istore_n 2, 1) := by decide +kernel
theorem dX6_leastLength_45 : decode cX6_leastLength 45 = .ok (.iload_n 2, 1) := by decide +kernel
theorem dX6_leastLength_46 : decode cX6_leastLength 46 = .ok (.aload_n 0, 1) := by decide +kernel
theorem dX6_leastLength_47 : decode cX6_leastLength 47 = .ok (.getfield 18, 3) := by decide +kernel
theorem dX6_leastLength_50 : decode cX6_leastLength 50 = .ok (.invokevirtual 71, 3) := by decide +kernel
theorem dX6_leastLength_53 : decode cX6_leastLength 53 = .ok (.if_icmp .ge 55, 3) := by decide +kernel
theorem dX6_leastLength_56 : decode cX6_leastLength 56 = .ok (.aload_n 0, 1) := by decide +kernel
theorem dX6_leastLength_57 : decode cX6_leastLength 57 = .ok (.getfield 18, 3) := by decide +kernel
theorem dX6_leastLength_60 : decode cX6_leastLength 60 = .ok (.iload_n 2, 1) := by decide +kernel
theorem dX6_leastLength_61 : decode cX6_leastLength 61 = .ok (.invokevirtual 80, 3) := by decide +kernel
theorem dX6_leastLength_64 : decode cX6_leastLength 64 = .ok (.checkcast 63, 3) := by decide +kernel
theorem dX6_leastLength_67 : decode cX6_leastLength 67 = .ok (.astore_n 3, 1) := by decide +kernel
theorem dX6_leastLength_68 : decode cX6_leastLength 68 = .ok (.iload_n 1, 1) := by decide +kernel
theorem dX6_leastLength_69 : decode cX6_leastLength 69 = .ok (.aload_n 3, 1) := by decide +kernel
theorem dX6_leastLength_70 : decode cX6_leastLength 70 = .ok (.getfield 62, 3) := by decide +kernel
theorem dX6_leastLength_73 : decode cX6_leastLength 73 = .ok (.iand, 1) := by decide +kernel
theorem dX6_leastLength_74 : decode cX6_leastLength 74 = .ok (.ifCond .eq 28, 3) := by decide +kernel
theorem dX6_leastLength_77 : decode cX6_leastLength 77 = .ok (.aload_n 0, 1) := by decide +kernel
theorem dX6_leastLength_78 : decode cX6_leastLength 78 = .ok (.getfield 27, 3) := by decide +kernel
theorem dX6_leastLength_81 : decode cX6_leastLength 81 = .ok (.iload_n 1, 1) := by decide +kernel
theorem dX6_leastLength_82 : decode cX6_leastLength 82 = .ok (.aload_n 0, 1) := by decide +kernel
theorem dX6_leastLength_83 : decode cX6_leastLength 83 = .ok (.aload_n 3, 1) := by decide +kernel
theorem dX6_leastLength_84 : decode cX6_leastLength 84 = .ok (.iload_n 1, 1) := by decide +kernel
theorem dX6_leastLength_85 : decode cX6_leastLength 85 = .ok (.invokevirtual 103, 3) := by decide +kernel
theorem dX6_leastLength_88 : decode cX6_leastLength 88 = .ok (.aload_n 0, 1) := by decide +kernel
theorem dX6_leastLength_89 : decode cX6_leastLength 89 = .ok (.getfield 9, 3) := by decide +kernel
theorem dX6_leastLength_92 : decode cX6_leastLength 92 = .ok (.getfield 75, 3) := by decide +kernel
theorem dX6_leastLength_95 : decode cX6_leastLength 95 = .ok (.aload_n 3, 1) := by decide +kernel
theorem dX6_leastLength_96 : decode cX6_leastLength 96 = .ok (.getfield 84, 3) := by decide +kernel
theorem dX6_leastLength_99 : decode cX6_leastLength 99 = .ok (.invokevirtual 96, 3) := by decide +kernel
theorem dX6_leastLength_102 : decode cX6_leastLength 102 = .ok (.iinc 2 1, 3) := by decide +kernel
theorem dX6_leastLength_105 : decode cX6_leastLength 105 = .ok (.goto (-60), 3) := by decide +kernel
theorem dX6_leastLength_108 : decode cX6_leastLength 108 = .ok (.iinc 1 1, 3) := by decide +kernel
theorem dX6_leastLength_111 : decode cX6_leastLength 111 = .ok (.goto (-84), 3) := by decide +kernel
theorem dX6_leastLength_114 : decode cX6_leastLength 114 = .ok (.aload_n 0, 1) := by decide +kernel
theorem dX6_leastLength_115 : decode cX6_leastLength 115 = .ok (.getfield 27, 3) := by decide +kernel
theorem dX6_leastLength_118 : decode cX6_leastLength 118 = .ok (.aload_n 0, 1) := by decide +kernel
theorem dX6_leastLength_119 : decode cX6_leastLength 119 = .ok (.invokevirtual 100, 3) := by decide +kernel
theorem dX6_leastLength_122 : decode cX6_leastLength 122 = .ok (.iconst 0, 1) := by decide +kernel
theorem dX6_leastLength_123 : decode cX6_leastLength 123 = .ok (.invokevirtual 87, 3) := by decide +kernel
theorem dX6_leastLength_126 : decode cX6_leastLength 126 = .ok (.ireturn, 1) := by decide +kernel
theorem dX6_restWith_0 : decode cX6_restWith 0 = .ok (.aload_n 1, 1) := by decide +kernel
theorem dX6_restWith_1 : decode cX6_restWith 1 = .ok (.getfield 107, 3) := by decide +kernel
theorem dX6_restWith_4 : decode cX6_restWith 4 = .ok (.aload_n 0, 1) := by decide +kernel
theorem dX6_restWith_5 : decode cX6_restWith 5 = .ok (.getfield 27, 3) := by decide +kernel
theorem dX6_restWith_8 : decode cX6_restWith 8 = .ok (.iload_n 2, 1) := by decide +kernel
theorem dX6_restWith_9 : decode cX6_restWith 9 = .ok (.aload_n 1, 1) := by decide +kernel
theorem dX6_restWith_10 : decode cX6_restWith 10 = .ok (.getfield 62, 3) := by decide +kernel
theorem dX6_restWith_13 : decode cX6_restWith 13 = .ok (.iconst (-1), 1) := by decide +kernel
theorem dX6_restWith_14 : decode cX6_restWith 14 = .ok (.ixor, 1) := by decide +kernel
theorem dX6_restWith_15 : decode cX6_restWith 15 = .ok (.iand, 1) := by decide +kernel
theorem dX6_restWith_16 : decode cX6_restWith 16 = .ok (.aload_n 1, 1) := by decide +kernel
theorem dX6_restWith_17 : decode cX6_restWith 17 = .ok (.getfield 110, 3) := by decide +kernel
theorem dX6_restWith_20 : decode cX6_restWith 20 = .ok (.invokevirtual 87, 3) := by decide +kernel
theorem dX6_restWith_23 : decode cX6_restWith 23 = .ok (.iadd, 1) := by decide +kernel
theorem dX6_restWith_24 : decode cX6_restWith 24 = .ok (.ireturn, 1) := by decide +kernel
theorem dX6_leastLengthByTrying_0 : decode cX6_leastLengthByTrying 0 = .ok (.aload_n 0, 1) := by decide +kernel
theorem dX6_leastLengthByTrying_1 : decode cX6_leastLengthByTrying 1 = .ok (.aload_n 0, 1) := by decide +kernel
theorem dX6_leastLengthByTrying_2 : decode cX6_leastLengthByTrying 2 = .ok (.invokevirtual 100, 3) := by decide +kernel
theorem dX6_leastLengthByTrying_5 : decode cX6_leastLengthByTrying 5 = .ok (.iconst 0, 1) := by decide +kernel
theorem dX6_leastLengthByTrying_6 : decode cX6_leastLengthByTrying 6 = .ok (.iconst 0, 1) := by decide +kernel
theorem dX6_leastLengthByTrying_7 : decode cX6_leastLengthByTrying 7 = .ok (.invokestatic 113, 3) := by decide +kernel
theorem dX6_leastLengthByTrying_10 : decode cX6_leastLengthByTrying 10 = .ok (.ireturn, 1) := by decide +kernel
theorem dX6_triedRest_0 : decode cX6_triedRest 0 = .ok (.iload_n 1, 1) := by decide +kernel
theorem dX6_triedRest_1 : decode cX6_triedRest 1 = .ok (.ifCond .ne 16, 3) := by decide +kernel
theorem dX6_triedRest_4 : decode cX6_triedRest 4 = .ok (.aload_n 0, 1) := by decide +kernel
theorem dX6_triedRest_5 : decode cX6_triedRest 5 = .ok (.getfield 9, 3) := by decide +kernel
theorem dX6_triedRest_8 : decode cX6_triedRest 8 = .ok (.getfield 75, 3) := by decide +kernel
theorem dX6_triedRest_11 : decode cX6_triedRest 11 = .ok (.iload_n 2, 1) := by decide +kernel
theorem dX6_triedRest_12 : decode cX6_triedRest 12 = .ok (.iconst 0, 1) := by decide +kernel
theorem dX6_triedRest_13 : decode cX6_triedRest 13 = .ok (.invokevirtual 87, 3) := by decide +kernel
theorem dX6_triedRest_16 : decode cX6_triedRest 16 = .ok (.ireturn, 1) := by decide +kernel
theorem dX6_triedRest_17 : decode cX6_triedRest 17 = .ok (.ldc 91, 2) := by decide +kernel
theorem dX6_triedRest_19 : decode cX6_triedRest 19 = .ok (.istore 4, 2) := by decide +kernel
theorem dX6_triedRest_21 : decode cX6_triedRest 21 = .ok (.iload_n 3, 1) := by decide +kernel
theorem dX6_triedRest_22 : decode cX6_triedRest 22 = .ok (.iconst 5, 1) := by decide +kernel
theorem dX6_triedRest_23 : decode cX6_triedRest 23 = .ok (.if_icmp .lt 6, 3) := by decide +kernel
theorem dX6_triedRest_26 : decode cX6_triedRest 26 = .ok (.iload 4, 2) := by decide +kernel
theorem dX6_triedRest_28 : decode cX6_triedRest 28 = .ok (.ireturn, 1) := by decide +kernel
theorem dX6_triedRest_29 : decode cX6_triedRest 29 = .ok (.iconst 0, 1) := by decide +kernel
theorem dX6_triedRest_30 : decode cX6_triedRest 30 = .ok (.istore 5, 2) := by decide +kernel
theorem dX6_triedRest_32 : decode cX6_triedRest 32 = .ok (.iload 5, 2) := by decide +kernel
theorem dX6_triedRest_34 : decode cX6_triedRest 34 = .ok (.aload_n 0, 1) := by decide +kernel
theorem dX6_triedRest_35 : decode cX6_triedRest 35 = .ok (.getfield 18, 3) := by decide +kernel
theorem dX6_triedRest_38 : decode cX6_triedRest 38 = .ok (.invokevirtual 71, 3) := by decide +kernel
theorem dX6_triedRest_41 : decode cX6_triedRest 41 = .ok (.if_icmp .ge 88, 3) := by decide +kernel
theorem dX6_triedRest_44 : decode cX6_triedRest 44 = .ok (.aload_n 0, 1) := by decide +kernel
theorem dX6_triedRest_45 : decode cX6_triedRest 45 = .ok (.getfield 18, 3) := by decide +kernel
theorem dX6_triedRest_48 : decode cX6_triedRest 48 = .ok (.iload 5, 2) := by decide +kernel
theorem dX6_triedRest_50 : decode cX6_triedRest 50 = .ok (.invokevirtual 80, 3) := by decide +kernel
theorem dX6_triedRest_53 : decode cX6_triedRest 53 = .ok (.checkcast 63, 3) := by decide +kernel
theorem dX6_triedRest_56 : decode cX6_triedRest 56 = .ok (.astore 6, 2) := by decide +kernel
theorem dX6_triedRest_58 : decode cX6_triedRest 58 = .ok (.iload_n 1, 1) := by decide +kernel
theorem dX6_triedRest_59 : decode cX6_triedRest 59 = .ok (.aload 6, 2) := by decide +kernel
theorem dX6_triedRest_61 : decode cX6_triedRest 61 = .ok (.getfield 62, 3) := by decide +kernel
theorem dX6_triedRest_64 : decode cX6_triedRest 64 = .ok (.iand, 1) := by decide +kernel
theorem dX6_triedRest_65 : decode cX6_triedRest 65 = .ok (.ifCond .eq 58, 3) := by decide +kernel
theorem dX6_triedRest_68 : decode cX6_triedRest 68 = .ok (.aload_n 0, 1) := by decide +kernel
theorem dX6_triedRest_69 : decode cX6_triedRest 69 = .ok (.getfield 9, 3) := by decide +kernel
theorem dX6_triedRest_72 : decode cX6_triedRest 72 = .ok (.getfield 75, 3) := by decide +kernel
theorem dX6_triedRest_75 : decode cX6_triedRest 75 = .ok (.iload_n 2, 1) := by decide +kernel
theorem dX6_triedRest_76 : decode cX6_triedRest 76 = .ok (.aload 6, 2) := by decide +kernel
theorem dX6_triedRest_78 : decode cX6_triedRest 78 = .ok (.getfield 84, 3) := by decide +kernel
theorem dX6_triedRest_81 : decode cX6_triedRest 81 = .ok (.invokevirtual 87, 3) := by decide +kernel
theorem dX6_triedRest_84 : decode cX6_triedRest 84 = .ok (.aload 6, 2) := by decide +kernel
theorem dX6_triedRest_86 : decode cX6_triedRest 86 = .ok (.getfield 107, 3) := by decide +kernel
theorem dX6_triedRest_89 : decode cX6_triedRest 89 = .ok (.iadd, 1) := by decide +kernel
theorem dX6_triedRest_90 : decode cX6_triedRest 90 = .ok (.istore 7, 2) := by decide +kernel
theorem dX6_triedRest_92 : decode cX6_triedRest 92 = .ok (.iload 4, 2) := by decide +kernel
theorem dX6_triedRest_94 : decode cX6_triedRest 94 = .ok (.iload 7, 2) := by decide +kernel
theorem dX6_triedRest_96 : decode cX6_triedRest 96 = .ok (.aload_n 0, 1) := by decide +kernel
theorem dX6_triedRest_97 : decode cX6_triedRest 97 = .ok (.iload_n 1, 1) := by decide +kernel
theorem dX6_triedRest_98 : decode cX6_triedRest 98 = .ok (.aload 6, 2) := by decide +kernel
theorem dX6_triedRest_100 : decode cX6_triedRest 100 = .ok (.getfield 62, 3) := by decide +kernel
theorem dX6_triedRest_103 : decode cX6_triedRest 103 = .ok (.iconst (-1), 1) := by decide +kernel
theorem dX6_triedRest_104 : decode cX6_triedRest 104 = .ok (.ixor, 1) := by decide +kernel
theorem dX6_triedRest_105 : decode cX6_triedRest 105 = .ok (.iand, 1) := by decide +kernel
theorem dX6_triedRest_106 : decode cX6_triedRest 106 = .ok (.aload 6, 2) := by decide +kernel
theorem dX6_triedRest_108 : decode cX6_triedRest 108 = .ok (.getfield 110, 3) := by decide +kernel
theorem dX6_triedRest_111 : decode cX6_triedRest 111 = .ok (.iload_n 3, 1) := by decide +kernel
theorem dX6_triedRest_112 : decode cX6_triedRest 112 = .ok (.iconst 1, 1) := by decide +kernel
theorem dX6_triedRest_113 : decode cX6_triedRest 113 = .ok (.iadd, 1) := by decide +kernel
theorem dX6_triedRest_114 : decode cX6_triedRest 114 = .ok (.invokestatic 113, 3) := by decide +kernel
theorem dX6_triedRest_117 : decode cX6_triedRest 117 = .ok (.iadd, 1) := by decide +kernel
theorem dX6_triedRest_118 : decode cX6_triedRest 118 = .ok (.invokestatic 117, 3) := by decide +kernel
theorem dX6_triedRest_121 : decode cX6_triedRest 121 = .ok (.istore 4, 2) := by decide +kernel
theorem dX6_triedRest_123 : decode cX6_triedRest 123 = .ok (.iinc 5 1, 3) := by decide +kernel
theorem dX6_triedRest_126 : decode cX6_triedRest 126 = .ok (.goto (-94), 3) := by decide +kernel
theorem dX6_triedRest_129 : decode cX6_triedRest 129 = .ok (.iload 4, 2) := by decide +kernel
theorem dX6_triedRest_131 : decode cX6_triedRest 131 = .ok (.ireturn, 1) := by decide +kernel
theorem dX6_trace_0 : decode cX6_trace 0 = .ok (.aload_n 0, 1) := by decide +kernel
theorem dX6_trace_1 : decode cX6_trace 1 = .ok (.invokevirtual 122, 3) := by decide +kernel
theorem dX6_trace_4 : decode cX6_trace 4 = .ok (.istore_n 1, 1) := by decide +kernel
theorem dX6_trace_5 : decode cX6_trace 5 = .ok (.aload_n 0, 1) := by decide +kernel
theorem dX6_trace_6 : decode cX6_trace 6 = .ok (.invokevirtual 100, 3) := by decide +kernel
theorem dX6_trace_9 : decode cX6_trace 9 = .ok (.istore_n 2, 1) := by decide +kernel
theorem dX6_trace_10 : decode cX6_trace 10 = .ok (.iconst 0, 1) := by decide +kernel
theorem dX6_trace_11 : decode cX6_trace 11 = .ok (.istore_n 3, 1) := by decide +kernel
theorem dX6_trace_12 : decode cX6_trace 12 = .ok (.aload_n 0, 1) := by decide +kernel
theorem dX6_trace_13 : decode cX6_trace 13 = .ok (.getfield 31, 3) := by decide +kernel
theorem dX6_trace_16 : decode cX6_trace 16 = .ok (.invokevirtual 38, 3) := by decide +kernel
theorem dX6_trace_19 : decode cX6_trace 19 = .ok (.aload_n 0, 1) := by decide +kernel
theorem dX6_trace_20 : decode cX6_trace 20 = .ok (.iconst 0, 1) := by decide +kernel
theorem dX6_trace_21 : decode cX6_trace 21 = .ok (.putfield 125, 3) := by decide +kernel
theorem dX6_trace_24 : decode cX6_trace 24 = .ok (.aload_n 0, 1) := by decide +kernel
theorem dX6_trace_25 : decode cX6_trace 25 = .ok (.iconst 0, 1) := by decide +kernel
theorem dX6_trace_26 : decode cX6_trace 26 = .ok (.invokevirtual 128, 3) := by decide +kernel
theorem dX6_trace_29 : decode cX6_trace 29 = .ok (.iconst 0, 1) := by decide +kernel
theorem dX6_trace_30 : decode cX6_trace 30 = .ok (.istore 4, 2) := by decide +kernel
theorem dX6_trace_32 : decode cX6_trace 32 = .ok (.iload 4, 2) := by decide +kernel
theorem dX6_trace_34 : decode cX6_trace 34 = .ok (.aload_n 0, 1) := by decide +kernel
theorem dX6_trace_35 : decode cX6_trace 35 = .ok (.getfield 41, 3) := by decide +kernel
theorem dX6_trace_38 : decode cX6_trace 38 = .ok (.if_icmp .ge 82, 3) := by decide +kernel
theorem dX6_trace_41 : decode cX6_trace 41 = .ok (.aload_n 0, 1) := by decide +kernel
theorem dX6_trace_42 : decode cX6_trace 42 = .ok (.iload_n 2, 1) := by decide +kernel
theorem dX6_trace_43 : decode cX6_trace 43 = .ok (.iload_n 3, 1) := by decide +kernel
theorem dX6_trace_44 : decode cX6_trace 44 = .ok (.invokevirtual 131, 3) := by decide +kernel
theorem dX6_trace_47 : decode cX6_trace 47 = .ok (.astore 5, 2) := by decide +kernel
theorem dX6_trace_49 : decode cX6_trace 49 = .ok (.aload 5, 2) := by decide +kernel
theorem dX6_trace_51 : decode cX6_trace 51 = .ok (.ifnonnull 4, 3) := by decide +kernel
theorem dX6_trace_54 : decode cX6_trace 54 = .ok (.return_, 1) := by decide +kernel
theorem dX6_trace_55 : decode cX6_trace 55 = .ok (.aload 5, 2) := by decide +kernel
theorem dX6_trace_57 : decode cX6_trace 57 = .ok (.iload_n 1, 1) := by decide +kernel
theorem dX6_trace_58 : decode cX6_trace 58 = .ok (.aload_n 0, 1) := by decide +kernel
theorem dX6_trace_59 : decode cX6_trace 59 = .ok (.aload 5, 2) := by decide +kernel
theorem dX6_trace_61 : decode cX6_trace 61 = .ok (.iload_n 2, 1) := by decide +kernel
theorem dX6_trace_62 : decode cX6_trace 62 = .ok (.invokevirtual 103, 3) := by decide +kernel
theorem dX6_trace_65 : decode cX6_trace 65 = .ok (.isub, 1) := by decide +kernel
theorem dX6_trace_66 : decode cX6_trace 66 = .ok (.putfield 135, 3) := by decide +kernel
theorem dX6_trace_69 : decode cX6_trace 69 = .ok (.aload_n 0, 1) := by decide +kernel
theorem dX6_trace_70 : decode cX6_trace 70 = .ok (.aload 5, 2) := by decide +kernel
theorem dX6_trace_72 : decode cX6_trace 72 = .ok (.getfield 84, 3) := by decide +kernel
theorem dX6_trace_75 : decode cX6_trace 75 = .ok (.iload_n 3, 1) := by decide +kernel
theorem dX6_trace_76 : decode cX6_trace 76 = .ok (.invokevirtual 138, 3) := by decide +kernel
theorem dX6_trace_79 : decode cX6_trace 79 = .ok (.aload_n 0, 1) := by decide +kernel
theorem dX6_trace_80 : decode cX6_trace 80 = .ok (.aload 5, 2) := by decide +kernel
theorem dX6_trace_82 : decode cX6_trace 82 = .ok (.getfield 110, 3) := by decide +kernel
theorem dX6_trace_85 : decode cX6_trace 85 = .ok (.invokevirtual 128, 3) := by decide +kernel
theorem dX6_trace_88 : decode cX6_trace 88 = .ok (.aload_n 0, 1) := by decide +kernel
theorem dX6_trace_89 : decode cX6_trace 89 = .ok (.getfield 31, 3) := by decide +kernel
theorem dX6_trace_92 : decode cX6_trace 92 = .ok (.aload 5, 2) := by decide +kernel
theorem dX6_trace_94 : decode cX6_trace 94 = .ok (.invokevirtual 67, 3) := by decide +kernel
theorem dX6_trace_97 : decode cX6_trace 97 = .ok (.pop, 1) := by decide +kernel
theorem dX6_trace_98 : decode cX6_trace 98 = .ok (.iload_n 2, 1) := by decide +kernel
theorem dX6_trace_99 : decode cX6_trace 99 = .ok (.aload 5, 2) := by decide +kernel
theorem dX6_trace_101 : decode cX6_trace 101 = .ok (.getfield 62, 3) := by decide +kernel
theorem dX6_trace_104 : decode cX6_trace 104 = .ok (.iconst (-1), 1) := by decide +kernel
theorem dX6_trace_105 : decode cX6_trace 105 = .ok (.ixor, 1) := by decide +kernel
theorem dX6_trace_106 : decode cX6_trace 106 = .ok (.iand, 1) := by decide +kernel
theorem dX6_trace_107 : decode cX6_trace 107 = .ok (.istore_n 2, 1) := by decide +kernel
theorem dX6_trace_108 : decode cX6_trace 108 = .ok (.aload 5, 2) := by decide +kernel
theorem dX6_trace_110 : decode cX6_trace 110 = .ok (.getfield 110, 3) := by decide +kernel
theorem dX6_trace_113 : decode cX6_trace 113 = .ok (.istore_n 3, 1) := by decide +kernel
theorem dX6_trace_114 : decode cX6_trace 114 = .ok (.iinc 4 1, 3) := by decide +kernel
theorem dX6_trace_117 : decode cX6_trace 117 = .ok (.goto (-85), 3) := by decide +kernel
theorem dX6_trace_120 : decode cX6_trace 120 = .ok (.aload_n 0, 1) := by decide +kernel
theorem dX6_trace_121 : decode cX6_trace 121 = .ok (.iconst 0, 1) := by decide +kernel
theorem dX6_trace_122 : decode cX6_trace 122 = .ok (.iload_n 3, 1) := by decide +kernel
theorem dX6_trace_123 : decode cX6_trace 123 = .ok (.invokevirtual 138, 3) := by decide +kernel
theorem dX6_trace_126 : decode cX6_trace 126 = .ok (.return_, 1) := by decide +kernel
theorem dX6_bestPass_0 : decode cX6_bestPass 0 = .ok (.iconst 0, 1) := by decide +kernel
theorem dX6_bestPass_1 : decode cX6_bestPass 1 = .ok (.istore_n 3, 1) := by decide +kernel
theorem dX6_bestPass_2 : decode cX6_bestPass 2 = .ok (.iload_n 3, 1) := by decide +kernel
theorem dX6_bestPass_3 : decode cX6_bestPass 3 = .ok (.aload_n 0, 1) := by decide +kernel
theorem dX6_bestPass_4 : decode cX6_bestPass 4 = .ok (.getfield 18, 3) := by decide +kernel
theorem dX6_bestPass_7 : decode cX6_bestPass 7 = .ok (.invokevirtual 71, 3) := by decide +kernel
theorem dX6_bestPass_10 : decode cX6_bestPass 10 = .ok (.if_icmp .ge 75, 3) := by decide +kernel
theorem dX6_bestPass_13 : decode cX6_bestPass 13 = .ok (.aload_n 0, 1) := by decide +kernel
theorem dX6_bestPass_14 : decode cX6_bestPass 14 = .ok (.getfield 18, 3) := by decide +kernel
theorem dX6_bestPass_17 : decode cX6_bestPass 17 = .ok (.iload_n 3, 1) := by decide +kernel
theorem dX6_bestPass_18 : decode cX6_bestPass 18 = .ok (.invokevirtual 80, 3) := by decide +kernel
theorem dX6_bestPass_21 : decode cX6_bestPass 21 = .ok (.checkcast 63, 3) := by decide +kernel
theorem dX6_bestPass_24 : decode cX6_bestPass 24 = .ok (.astore 4, 2) := by decide +kernel
theorem dX6_bestPass_26 : decode cX6_bestPass 26 = .ok (.aload_n 0, 1) := by decide +kernel
theorem dX6_bestPass_27 : decode cX6_bestPass 27 = .ok (.getfield 9, 3) := by decide +kernel
theorem dX6_bestPass_30 : decode cX6_bestPass 30 = .ok (.getfield 75, 3) := by decide +kernel
theorem dX6_bestPass_33 : decode cX6_bestPass 33 = .ok (.iload_n 2, 1) := by decide +kernel
theorem dX6_bestPass_34 : decode cX6_bestPass 34 = .ok (.aload 4, 2) := by decide +kernel
theorem dX6_bestPass_36 : decode cX6_bestPass 36 = .ok (.getfield 84, 3) := by decide +kernel
theorem dX6_bestPass_39 : decode cX6_bestPass 39 = .ok (.invokevirtual 87, 3) := by decide +kernel
theorem dX6_bestPass_42 : decode cX6_bestPass 42 = .ok (.aload_n 0, 1) := by decide +kernel
theorem dX6_bestPass_43 : decode cX6_bestPass 43 = .ok (.aload 4, 2) := by decide +kernel
theorem dX6_bestPass_45 : decode cX6_bestPass 45 = .ok (.iload_n 1, 1) := by decide +kernel
theorem dX6_bestPass_46 : decode cX6_bestPass 46 = .ok (.invokevirtual 103, 3) := by decide +kernel
theorem dX6_bestPass_49 : decode cX6_bestPass 49 = .ok (.iadd, 1) := by decide +kernel
theorem dX6_bestPass_50 : decode cX6_bestPass 50 = .ok (.istore 5, 2) := by decide +kernel
theorem dX6_bestPass_52 : decode cX6_bestPass 52 = .ok (.iload_n 1, 1) := by decide +kernel
theorem dX6_bestPass_53 : decode cX6_bestPass 53 = .ok (.aload 4, 2) := by decide +kernel
theorem dX6_bestPass_55 : decode cX6_bestPass 55 = .ok (.getfield 62, 3) := by decide +kernel
theorem dX6_bestPass_58 : decode cX6_bestPass 58 = .ok (.iand, 1) := by decide +kernel
theorem dX6_bestPass_59 : decode cX6_bestPass 59 = .ok (.ifCond .eq 20, 3) := by decide +kernel
theorem dX6_bestPass_62 : decode cX6_bestPass 62 = .ok (.iload 5, 2) := by decide +kernel
theorem dX6_bestPass_64 : decode cX6_bestPass 64 = .ok (.aload_n 0, 1) := by decide +kernel
theorem dX6_bestPass_65 : decode cX6_bestPass 65 = .ok (.getfield 27, 3) := by decide +kernel
theorem dX6_bestPass_68 : decode cX6_bestPass 68 = .ok (.iload_n 1, 1) := by decide +kernel
theorem dX6_bestPass_69 : decode cX6_bestPass 69 = .ok (.iload_n 2, 1) := by decide +kernel
theorem dX6_bestPass_70 : decode cX6_bestPass 70 = .ok (.invokevirtual 87, 3) := by decide +kernel
theorem dX6_bestPass_73 : decode cX6_bestPass 73 = .ok (.if_icmp .ne 6, 3) := by decide +kernel
theorem dX6_bestPass_76 : decode cX6_bestPass 76 = .ok (.aload 4, 2) := by decide +kernel
theorem dX6_bestPass_78 : decode cX6_bestPass 78 = .ok (.areturn, 1) := by decide +kernel
theorem dX6_bestPass_79 : decode cX6_bestPass 79 = .ok (.iinc 3 1, 3) := by decide +kernel
theorem dX6_bestPass_82 : decode cX6_bestPass 82 = .ok (.goto (-80), 3) := by decide +kernel
theorem dX6_bestPass_85 : decode cX6_bestPass 85 = .ok (.aconst_null, 1) := by decide +kernel
theorem dX6_bestPass_86 : decode cX6_bestPass 86 = .ok (.areturn, 1) := by decide +kernel
theorem dX6_goTo_0 : decode cX6_goTo 0 = .ok (.iload_n 2, 1) := by decide +kernel
theorem dX6_goTo_1 : decode cX6_goTo 1 = .ok (.istore_n 3, 1) := by decide +kernel
theorem dX6_goTo_2 : decode cX6_goTo 2 = .ok (.iconst 0, 1) := by decide +kernel
theorem dX6_goTo_3 : decode cX6_goTo 3 = .ok (.istore 4, 2) := by decide +kernel
theorem dX6_goTo_5 : decode cX6_goTo 5 = .ok (.iload 4, 2) := by decide +kernel
theorem dX6_goTo_7 : decode cX6_goTo 7 = .ok (.bipush 10, 2) := by decide +kernel
theorem dX6_goTo_9 : decode cX6_goTo 9 = .ok (.if_icmp .ge 29, 3) := by decide +kernel
theorem dX6_goTo_12 : decode cX6_goTo 12 = .ok (.iload_n 3, 1) := by decide +kernel
theorem dX6_goTo_13 : decode cX6_goTo 13 = .ok (.iload_n 1, 1) := by decide +kernel
theorem dX6_goTo_14 : decode cX6_goTo 14 = .ok (.if_icmp .eq 24, 3) := by decide +kernel
theorem dX6_goTo_17 : decode cX6_goTo 17 = .ok (.aload_n 0, 1) := by decide +kernel
theorem dX6_goTo_18 : decode cX6_goTo 18 = .ok (.getfield 9, 3) := by decide +kernel
theorem dX6_goTo_21 : decode cX6_goTo 21 = .ok (.iload_n 3, 1) := by decide +kernel
theorem dX6_goTo_22 : decode cX6_goTo 22 = .ok (.iload_n 1, 1) := by decide +kernel
theorem dX6_goTo_23 : decode cX6_goTo 23 = .ok (.invokevirtual 141, 3) := by decide +kernel
theorem dX6_goTo_26 : decode cX6_goTo 26 = .ok (.istore_n 3, 1) := by decide +kernel
theorem dX6_goTo_27 : decode cX6_goTo 27 = .ok (.aload_n 0, 1) := by decide +kernel
theorem dX6_goTo_28 : decode cX6_goTo 28 = .ok (.iload_n 3, 1) := by decide +kernel
theorem dX6_goTo_29 : decode cX6_goTo 29 = .ok (.invokevirtual 128, 3) := by decide +kernel
theorem dX6_goTo_32 : decode cX6_goTo 32 = .ok (.iinc 4 1, 3) := by decide +kernel
theorem dX6_goTo_35 : decode cX6_goTo 35 = .ok (.goto (-30), 3) := by decide +kernel
theorem dX6_goTo_38 : decode cX6_goTo 38 = .ok (.return_, 1) := by decide +kernel
theorem dX6_comeTo_0 : decode cX6_comeTo 0 = .ok (.aload_n 0, 1) := by decide +kernel
theorem dX6_comeTo_1 : decode cX6_comeTo 1 = .ok (.getfield 125, 3) := by decide +kernel
theorem dX6_comeTo_4 : decode cX6_comeTo 4 = .ok (.aload_n 0, 1) := by decide +kernel
theorem dX6_comeTo_5 : decode cX6_comeTo 5 = .ok (.getfield 34, 3) := by decide +kernel
theorem dX6_comeTo_8 : decode cX6_comeTo 8 = .ok (.arraylength, 1) := by decide +kernel
theorem dX6_comeTo_9 : decode cX6_comeTo 9 = .ok (.if_icmp .ge 23, 3) := by decide +kernel
theorem dX6_comeTo_12 : decode cX6_comeTo 12 = .ok (.aload_n 0, 1) := by decide +kernel
theorem dX6_comeTo_13 : decode cX6_comeTo 13 = .ok (.getfield 34, 3) := by decide +kernel
theorem dX6_comeTo_16 : decode cX6_comeTo 16 = .ok (.aload_n 0, 1) := by decide +kernel
theorem dX6_comeTo_17 : decode cX6_comeTo 17 = .ok (.getfield 125, 3) := by decide +kernel
theorem dX6_comeTo_20 : decode cX6_comeTo 20 = .ok (.iload_n 1, 1) := by decide +kernel
theorem dX6_comeTo_21 : decode cX6_comeTo 21 = .ok (.iastore, 1) := by decide +kernel
theorem dX6_comeTo_22 : decode cX6_comeTo 22 = .ok (.aload_n 0, 1) := by decide +kernel
theorem dX6_comeTo_23 : decode cX6_comeTo 23 = .ok (.dup, 1) := by decide +kernel
theorem dX6_comeTo_24 : decode cX6_comeTo 24 = .ok (.getfield 125, 3) := by decide +kernel
theorem dX6_comeTo_27 : decode cX6_comeTo 27 = .ok (.iconst 1, 1) := by decide +kernel
theorem dX6_comeTo_28 : decode cX6_comeTo 28 = .ok (.iadd, 1) := by decide +kernel
theorem dX6_comeTo_29 : decode cX6_comeTo 29 = .ok (.putfield 125, 3) := by decide +kernel
theorem dX6_comeTo_32 : decode cX6_comeTo 32 = .ok (.return_, 1) := by decide +kernel
theorem dX6_lengthTo_0 : decode cX6_lengthTo 0 = .ok (.iconst 0, 1) := by decide +kernel
theorem dX6_lengthTo_1 : decode cX6_lengthTo 1 = .ok (.istore_n 2, 1) := by decide +kernel
theorem dX6_lengthTo_2 : decode cX6_lengthTo 2 = .ok (.iload_n 2, 1) := by decide +kernel
theorem dX6_lengthTo_3 : decode cX6_lengthTo 3 = .ok (.aload_n 0, 1) := by decide +kernel
theorem dX6_lengthTo_4 : decode cX6_lengthTo 4 = .ok (.getfield 31, 3) := by decide +kernel
theorem dX6_lengthTo_7 : decode cX6_lengthTo 7 = .ok (.invokevirtual 71, 3) := by decide +kernel
theorem dX6_lengthTo_10 : decode cX6_lengthTo 10 = .ok (.if_icmp .ge 40, 3) := by decide +kernel
theorem dX6_lengthTo_13 : decode cX6_lengthTo 13 = .ok (.aload_n 0, 1) := by decide +kernel
theorem dX6_lengthTo_14 : decode cX6_lengthTo 14 = .ok (.getfield 31, 3) := by decide +kernel
theorem dX6_lengthTo_17 : decode cX6_lengthTo 17 = .ok (.iload_n 2, 1) := by decide +kernel
theorem dX6_lengthTo_18 : decode cX6_lengthTo 18 = .ok (.invokevirtual 80, 3) := by decide +kernel
theorem dX6_lengthTo_21 : decode cX6_lengthTo 21 = .ok (.checkcast 63, 3) := by decide +kernel
theorem dX6_lengthTo_24 : decode cX6_lengthTo 24 = .ok (.astore_n 3, 1) := by decide +kernel
theorem dX6_lengthTo_25 : decode cX6_lengthTo 25 = .ok (.aload_n 3, 1) := by decide +kernel
theorem dX6_lengthTo_26 : decode cX6_lengthTo 26 = .ok (.aload_n 1, 1) := by decide +kernel
theorem dX6_lengthTo_27 : decode cX6_lengthTo 27 = .ok (.invokevirtual 144, 3) := by decide +kernel
theorem dX6_lengthTo_30 : decode cX6_lengthTo 30 = .ok (.ifCond .eq 14, 3) := by decide +kernel
theorem dX6_lengthTo_33 : decode cX6_lengthTo 33 = .ok (.aload_n 3, 1) := by decide +kernel
theorem dX6_lengthTo_34 : decode cX6_lengthTo 34 = .ok (.getfield 135, 3) := by decide +kernel
theorem dX6_lengthTo_37 : decode cX6_lengthTo 37 = .ok (.aload_n 3, 1) := by decide +kernel
theorem dX6_lengthTo_38 : decode cX6_lengthTo 38 = .ok (.aload_n 1, 1) := by decide +kernel
theorem dX6_lengthTo_39 : decode cX6_lengthTo 39 = .ok (.invokevirtual 148, 3) := by decide +kernel
theorem dX6_lengthTo_42 : decode cX6_lengthTo 42 = .ok (.iadd, 1) := by decide +kernel
theorem dX6_lengthTo_43 : decode cX6_lengthTo 43 = .ok (.ireturn, 1) := by decide +kernel
theorem dX6_lengthTo_44 : decode cX6_lengthTo 44 = .ok (.iinc 2 1, 3) := by decide +kernel
theorem dX6_lengthTo_47 : decode cX6_lengthTo 47 = .ok (.goto (-45), 3) := by decide +kernel
theorem dX6_lengthTo_50 : decode cX6_lengthTo 50 = .ok (.iconst (-1), 1) := by decide +kernel
theorem dX6_lengthTo_51 : decode cX6_lengthTo 51 = .ok (.ireturn, 1) := by decide +kernel
theorem dX7_init_0 : decode cX7_init 0 = .ok (.aload_n 0, 1) := by decide +kernel
theorem dX7_init_1 : decode cX7_init 1 = .ok (.invokespecial 3, 3) := by decide +kernel
theorem dX7_init_4 : decode cX7_init 4 = .ok (.aload_n 0, 1) := by decide +kernel
theorem dX7_init_5 : decode cX7_init 5 = .ok (.new 9, 3) := by decide +kernel
theorem dX7_init_8 : decode cX7_init 8 = .ok (.dup, 1) := by decide +kernel
theorem dX7_init_9 : decode cX7_init 9 = .ok (.bipush 10, 2) := by decide +kernel
theorem dX7_init_11 : decode cX7_init 11 = .ok (.bipush 10, 2) := by decide +kernel
theorem dX7_init_13 : decode cX7_init 13 = .ok (.invokespecial 11, 3) := by decide +kernel
theorem dX7_init_16 : decode cX7_init 16 = .ok (.putfield 14, 3) := by decide +kernel
theorem dX7_init_19 : decode cX7_init 19 = .ok (.aload_n 0, 1) := by decide +kernel
theorem dX7_init_20 : decode cX7_init 20 = .ok (.new 9, 3) := by decide +kernel
theorem dX7_init_23 : decode cX7_init 23 = .ok (.dup, 1) := by decide +kernel
theorem dX7_init_24 : decode cX7_init 24 = .ok (.bipush 10, 2) := by decide +kernel
theorem dX7_init_26 : decode cX7_init 26 = .ok (.bipush 10, 2) := by decide +kernel
theorem dX7_init_28 : decode cX7_init 28 = .ok (.invokespecial 11, 3) := by decide +kernel
theorem dX7_init_31 : decode cX7_init 31 = .ok (.putfield 20, 3) := by decide +kernel
theorem dX7_init_34 : decode cX7_init 34 = .ok (.aload_n 0, 1) := by decide +kernel
theorem dX7_init_35 : decode cX7_init 35 = .ok (.new 9, 3) := by decide +kernel
theorem dX7_init_38 : decode cX7_init 38 = .ok (.dup, 1) := by decide +kernel
theorem dX7_init_39 : decode cX7_init 39 = .ok (.iconst 1, 1) := by decide +kernel
theorem dX7_init_40 : decode cX7_init 40 = .ok (.bipush 10, 2) := by decide +kernel
theorem dX7_init_42 : decode cX7_init 42 = .ok (.invokespecial 11, 3) := by decide +kernel
theorem dX7_init_45 : decode cX7_init 45 = .ok (.putfield 23, 3) := by decide +kernel
theorem dX7_init_48 : decode cX7_init 48 = .ok (.iconst 0, 1) := by decide +kernel
theorem dX7_init_49 : decode cX7_init 49 = .ok (.istore_n 1, 1) := by decide +kernel
theorem dX7_init_50 : decode cX7_init 50 = .ok (.iload_n 1, 1) := by decide +kernel
theorem dX7_init_51 : decode cX7_init 51 = .ok (.bipush 10, 2) := by decide +kernel
theorem dX7_init_53 : decode cX7_init 53 = .ok (.if_icmp .ge 19, 3) := by decide +kernel
theorem dX7_init_56 : decode cX7_init 56 = .ok (.aload_n 0, 1) := by decide +kernel
theorem dX7_init_57 : decode cX7_init 57 = .ok (.getfield 20, 3) := by decide +kernel
theorem dX7_init_60 : decode cX7_init 60 = .ok (.iload_n 1, 1) := by decide +kernel
theorem dX7_init_61 : decode cX7_init 61 = .ok (.iload_n 1, 1) := by decide +kernel
theorem dX7_init_62 : decode cX7_init 62 = .ok (.iconst 0, 1) := by decide +kernel
theorem dX7_init_63 : decode cX7_init 63 = .ok (.invokevirtual 26, 3) := by decide +kernel
theorem dX7_init_66 : decode cX7_init 66 = .ok (.iinc 1 1, 3) := by decide +kernel
theorem dX7_init_69 : decode cX7_init 69 = .ok (.goto (-19), 3) := by decide +kernel
theorem dX7_init_72 : decode cX7_init 72 = .ok (.return_, 1) := by decide +kernel
theorem dX7_connect_0 : decode cX7_connect 0 = .ok (.aload_n 1, 1) := by decide +kernel
theorem dX7_connect_1 : decode cX7_connect 1 = .ok (.getfield 30, 3) := by decide +kernel
theorem dX7_connect_4 : decode cX7_connect 4 = .ok (.astore_n 2, 1) := by decide +kernel
theorem dX7_connect_5 : decode cX7_connect 5 = .ok (.aload_n 1, 1) := by decide +kernel
theorem dX7_connect_6 : decode cX7_connect 6 = .ok (.getfield 36, 3) := by decide +kernel
theorem dX7_connect_9 : decode cX7_connect 9 = .ok (.aload_n 0, 1) := by decide +kernel
theorem dX7_connect_10 : decode cX7_connect 10 = .ok (.getfield 14, 3) := by decide +kernel
theorem dX7_connect_13 : decode cX7_connect 13 = .ok (.aload_n 2, 1) := by decide +kernel
theorem dX7_connect_14 : decode cX7_connect 14 = .ok (.getfield 40, 3) := by decide +kernel
theorem dX7_connect_17 : decode cX7_connect 17 = .ok (.aload_n 2, 1) := by decide +kernel
theorem dX7_connect_18 : decode cX7_connect 18 = .ok (.getfield 45, 3) := by decide +kernel
theorem dX7_connect_21 : decode cX7_connect 21 = .ok (.invokevirtual 48, 3) := by decide +kernel
theorem dX7_connect_24 : decode cX7_connect 24 = .ok (.invokestatic 52, 3) := by decide +kernel
theorem dX7_connect_27 : decode cX7_connect 27 = .ok (.istore_n 3, 1) := by decide +kernel
theorem dX7_connect_28 : decode cX7_connect 28 = .ok (.aload_n 0, 1) := by decide +kernel
theorem dX7_connect_29 : decode cX7_connect 29 = .ok (.getfield 14, 3) := by decide +kernel
theorem dX7_connect_32 : decode cX7_connect 32 = .ok (.aload_n 2, 1) := by decide +kernel
theorem dX7_connect_33 : decode cX7_connect 33 = .ok (.getfield 40, 3) := by decide +kernel
theorem dX7_connect_36 : decode cX7_connect 36 = .ok (.aload_n 2, 1) := by decide +kernel
theorem dX7_connect_37 : decode cX7_connect 37 = .ok (.getfield 45, 3) := by decide +kernel
theorem dX7_connect_40 : decode cX7_connect 40 = .ok (.iload_n 3, 1) := by decide +kernel
theorem dX7_connect_41 : decode cX7_connect 41 = .ok (.invokevirtual 26, 3) := by decide +kernel
theorem dX7_connect_44 : decode cX7_connect 44 = .ok (.aload_n 0, 1) := by decide +kernel
theorem dX7_connect_45 : decode cX7_connect 45 = .ok (.getfield 14, 3) := by decide +kernel
theorem dX7_connect_48 : decode cX7_connect 48 = .ok (.aload_n 2, 1) := by decide +kernel
theorem dX7_connect_49 : decode cX7_connect 49 = .ok (.getfield 45, 3) := by decide +kernel
theorem dX7_connect_52 : decode cX7_connect 52 = .ok (.aload_n 2, 1) := by decide +kernel
theorem dX7_connect_53 : decode cX7_connect 53 = .ok (.getfield 40, 3) := by decide +kernel
theorem dX7_connect_56 : decode cX7_connect 56 = .ok (.iload_n 3, 1) := by decide +kernel
theorem dX7_connect_57 : decode cX7_connect 57 = .ok (.invokevirtual 26, 3) := by decide +kernel
theorem dX7_connect_60 : decode cX7_connect 60 = .ok (.iconst 0, 1) := by decide +kernel
theorem dX7_connect_61 : decode cX7_connect 61 = .ok (.istore 4, 2) := by decide +kernel
theorem dX7_connect_63 : decode cX7_connect 63 = .ok (.iload 4, 2) := by decide +kernel
theorem dX7_connect_65 : decode cX7_connect 65 = .ok (.bipush 10, 2) := by decide +kernel
theorem dX7_connect_67 : decode cX7_connect 67 = .ok (.if_icmp .ge 15, 3) := by decide +kernel
theorem dX7_connect_70 : decode cX7_connect 70 = .ok (.aload_n 0, 1) := by decide +kernel
theorem dX7_connect_71 : decode cX7_connect 71 = .ok (.iload 4, 2) := by decide +kernel
theorem dX7_connect_73 : decode cX7_connect 73 = .ok (.invokevirtual 57, 3) := by decide +kernel
theorem dX7_connect_76 : decode cX7_connect 76 = .ok (.iinc 4 1, 3) := by decide +kernel
theorem dX7_connect_79 : decode cX7_connect 79 = .ok (.goto (-16), 3) := by decide +kernel
theorem dX7_connect_82 : decode cX7_connect 82 = .ok (.return_, 1) := by decide +kernel
theorem dX7_measureFrom_0 : decode cX7_measureFrom 0 = .ok (.iconst 0, 1) := by decide +kernel
theorem dX7_measureFrom_1 : decode cX7_measureFrom 1 = .ok (.istore_n 2, 1) := by decide +kernel
theorem dX7_measureFrom_2 : decode cX7_measureFrom 2 = .ok (.iconst 0, 1) := by decide +kernel
theorem dX7_measureFrom_3 : decode cX7_measureFrom 3 = .ok (.istore_n 3, 1) := by decide +kernel
theorem dX7_measureFrom_4 : decode cX7_measureFrom 4 = .ok (.iload_n 3, 1) := by decide +kernel
theorem dX7_measureFrom_5 : decode cX7_measureFrom 5 = .ok (.bipush 10, 2) := by decide +kernel
theorem dX7_measureFrom_7 : decode cX7_measureFrom 7 = .ok (.if_icmp .ge 98, 3) := by decide +kernel
theorem dX7_measureFrom_10 : decode cX7_measureFrom 10 = .ok (.aload_n 0, 1) := by decide +kernel
theorem dX7_measureFrom_11 : decode cX7_measureFrom 11 = .ok (.iload_n 1, 1) := by decide +kernel
theorem dX7_measureFrom_12 : decode cX7_measureFrom 12 = .ok (.iload_n 2, 1) := by decide +kernel
theorem dX7_measureFrom_13 : decode cX7_measureFrom 13 = .ok (.invokevirtual 61, 3) := by decide +kernel
theorem dX7_measureFrom_16 : decode cX7_measureFrom 16 = .ok (.istore 4, 2) := by decide +kernel
theorem dX7_measureFrom_18 : decode cX7_measureFrom 18 = .ok (.iload 4, 2) := by decide +kernel
theorem dX7_measureFrom_20 : decode cX7_measureFrom 20 = .ok (.iconst (-1), 1) := by decide +kernel
theorem dX7_measureFrom_21 : decode cX7_measureFrom 21 = .ok (.if_icmp .ne 4, 3) := by decide +kernel
theorem dX7_measureFrom_24 : decode cX7_measureFrom 24 = .ok (.return_, 1) := by decide +kernel
theorem dX7_measureFrom_25 : decode cX7_measureFrom 25 = .ok (.iload_n 2, 1) := by decide +kernel
theorem dX7_measureFrom_26 : decode cX7_measureFrom 26 = .ok (.iconst 1, 1) := by decide +kernel
theorem dX7_measureFrom_27 : decode cX7_measureFrom 27 = .ok (.iload 4, 2) := by decide +kernel
theorem dX7_measureFrom_29 : decode cX7_measureFrom 29 = .ok (.ishl, 1) := by decide +kernel
theorem dX7_measureFrom_30 : decode cX7_measureFrom 30 = .ok (.ior, 1) := by decide +kernel
theorem dX7_measureFrom_31 : decode cX7_measureFrom 31 = .ok (.istore_n 2, 1) := by decide +kernel
theorem dX7_measureFrom_32 : decode cX7_measureFrom 32 = .ok (.iconst 0, 1) := by decide +kernel
theorem dX7_measureFrom_33 : decode cX7_measureFrom 33 = .ok (.istore 5, 2) := by decide +kernel
theorem dX7_measureFrom_35 : decode cX7_measureFrom 35 = .ok (.iload 5, 2) := by decide +kernel
theorem dX7_measureFrom_37 : decode cX7_measureFrom 37 = .ok (.bipush 10, 2) := by decide +kernel
theorem dX7_measureFrom_39 : decode cX7_measureFrom 39 = .ok (.if_icmp .ge 60, 3) := by decide +kernel
theorem dX7_measureFrom_42 : decode cX7_measureFrom 42 = .ok (.aload_n 0, 1) := by decide +kernel
theorem dX7_measureFrom_43 : decode cX7_measureFrom 43 = .ok (.getfield 20, 3) := by decide +kernel
theorem dX7_measureFrom_46 : decode cX7_measureFrom 46 = .ok (.iload_n 1, 1) := by decide +kernel
theorem dX7_measureFrom_47 : decode cX7_measureFrom 47 = .ok (.iload 4, 2) := by decide +kernel
theorem dX7_measureFrom_49 : decode cX7_measureFrom 49 = .ok (.invokevirtual 48, 3) := by decide +kernel
theorem dX7_measureFrom_52 : decode cX7_measureFrom 52 = .ok (.aload_n 0, 1) := by decide +kernel
theorem dX7_measureFrom_53 : decode cX7_measureFrom 53 = .ok (.getfield 14, 3) := by decide +kernel
theorem dX7_measureFrom_56 : decode cX7_measureFrom 56 = .ok (.iload 4, 2) := by decide +kernel
theorem dX7_measureFrom_58 : decode cX7_measureFrom 58 = .ok (.iload 5, 2) := by decide +kernel
theorem dX7_measureFrom_60 : decode cX7_measureFrom 60 = .ok (.invokevirtual 48, 3) := by decide +kernel
theorem dX7_measureFrom_63 : decode cX7_measureFrom 63 = .ok (.iadd, 1) := by decide +kernel
theorem dX7_measureFrom_64 : decode cX7_measureFrom 64 = .ok (.istore 6, 2) := by decide +kernel
theorem dX7_measureFrom_66 : decode cX7_measureFrom 66 = .ok (.iload 6, 2) := by decide +kernel
theorem dX7_measureFrom_68 : decode cX7_measureFrom 68 = .ok (.aload_n 0, 1) := by decide +kernel
theorem dX7_measureFrom_69 : decode cX7_measureFrom 69 = .ok (.getfield 20, 3) := by decide +kernel
theorem dX7_measureFrom_72 : decode cX7_measureFrom 72 = .ok (.iload_n 1, 1) := by decide +kernel
theorem dX7_measureFrom_73 : decode cX7_measureFrom 73 = .ok (.iload 5, 2) := by decide +kernel
theorem dX7_measureFrom_75 : decode cX7_measureFrom 75 = .ok (.invokevirtual 48, 3) := by decide +kernel
theorem dX7_measureFrom_78 : decode cX7_measureFrom 78 = .ok (.if_icmp .ge 15, 3) := by decide +kernel
theorem dX7_measureFrom_81 : decode cX7_measureFrom 81 = .ok (.aload_n 0, 1) := by decide +kernel
theorem dX7_measureFrom_82 : decode cX7_measureFrom 82 = .ok (.getfield 20, 3) := by decide +kernel
theorem dX7_measureFrom_85 : decode cX7_measureFrom 85 = .ok (.iload_n 1, 1) := by decide +kernel
theorem dX7_measureFrom_86 : decode cX7_measureFrom 86 = .ok (.iload 5, 2) := by decide +kernel
theorem dX7_measureFrom_88 : decode cX7_measureFrom 88 = .ok (.iload 6, 2) := by decide +kernel
theorem dX7_measureFrom_90 : decode cX7_measureFrom 90 = .ok (.invokevirtual 26, 3) := by decide +kernel
theorem dX7_measureFrom_93 : decode cX7_measureFrom 93 = .ok (.iinc 5 1, 3) := by decide +kernel
theorem dX7_measureFrom_96 : decode cX7_measureFrom 96 = .ok (.goto (-61), 3) := by decide +kernel
theorem dX7_measureFrom_99 : decode cX7_measureFrom 99 = .ok (.iinc 3 1, 3) := by decide +kernel
theorem dX7_measureFrom_102 : decode cX7_measureFrom 102 = .ok (.goto (-98), 3) := by decide +kernel
theorem dX7_measureFrom_105 : decode cX7_measureFrom 105 = .ok (.return_, 1) := by decide +kernel
theorem dX7_nearestNotTaken_0 : decode cX7_nearestNotTaken 0 = .ok (.iconst (-1), 1) := by decide +kernel
theorem dX7_nearestNotTaken_1 : decode cX7_nearestNotTaken 1 = .ok (.istore_n 3, 1) := by decide +kernel
theorem dX7_nearestNotTaken_2 : decode cX7_nearestNotTaken 2 = .ok (.ldc 64, 2) := by decide +kernel
theorem dX7_nearestNotTaken_4 : decode cX7_nearestNotTaken 4 = .ok (.istore 4, 2) := by decide +kernel
theorem dX7_nearestNotTaken_6 : decode cX7_nearestNotTaken 6 = .ok (.iconst 0, 1) := by decide +kernel
theorem dX7_nearestNotTaken_7 : decode cX7_nearestNotTaken 7 = .ok (.istore 5, 2) := by decide +kernel
theorem dX7_nearestNotTaken_9 : decode cX7_nearestNotTaken 9 = .ok (.iload 5, 2) := by decide +kernel
theorem dX7_nearestNotTaken_11 : decode cX7_nearestNotTaken 11 = .ok (.bipush 10, 2) := by decide +kernel
theorem dX7_nearestNotTaken_13 : decode cX7_nearestNotTaken 13 = .ok (.if_icmp .ge 48, 3) := by decide +kernel
theorem dX7_nearestNotTaken_16 : decode cX7_nearestNotTaken 16 = .ok (.iload_n 2, 1) := by decide +kernel
theorem dX7_nearestNotTaken_17 : decode cX7_nearestNotTaken 17 = .ok (.iload 5, 2) := by decide +kernel
theorem dX7_nearestNotTaken_19 : decode cX7_nearestNotTaken 19 = .ok (.ishr, 1) := by decide +kernel
theorem dX7_nearestNotTaken_20 : decode cX7_nearestNotTaken 20 = .ok (.iconst 1, 1) := by decide +kernel
theorem dX7_nearestNotTaken_21 : decode cX7_nearestNotTaken 21 = .ok (.iand, 1) := by decide +kernel
theorem dX7_nearestNotTaken_22 : decode cX7_nearestNotTaken 22 = .ok (.ifCond .ne 33, 3) := by decide +kernel
theorem dX7_nearestNotTaken_25 : decode cX7_nearestNotTaken 25 = .ok (.aload_n 0, 1) := by decide +kernel
theorem dX7_nearestNotTaken_26 : decode cX7_nearestNotTaken 26 = .ok (.getfield 20, 3) := by decide +kernel
theorem dX7_nearestNotTaken_29 : decode cX7_nearestNotTaken 29 = .ok (.iload_n 1, 1) := by decide +kernel
theorem dX7_nearestNotTaken_30 : decode cX7_nearestNotTaken 30 = .ok (.iload 5, 2) := by decide +kernel
theorem dX7_nearestNotTaken_32 : decode cX7_nearestNotTaken 32 = .ok (.invokevirtual 48, 3) := by decide +kernel
theorem dX7_nearestNotTaken_35 : decode cX7_nearestNotTaken 35 = .ok (.iload 4, 2) := by decide +kernel
theorem dX7_nearestNotTaken_37 : decode cX7_nearestNotTaken 37 = .ok (.if_icmp .ge 18, 3) := by decide +kernel
theorem dX7_nearestNotTaken_40 : decode cX7_nearestNotTaken 40 = .ok (.iload 5, 2) := by decide +kernel
theorem dX7_nearestNotTaken_42 : decode cX7_nearestNotTaken 42 = .ok (.istore_n 3, 1) := by decide +kernel
theorem dX7_nearestNotTaken_43 : decode cX7_nearestNotTaken 43 = .ok (.aload_n 0, 1) := by decide +kernel
theorem dX7_nearestNotTaken_44 : decode cX7_nearestNotTaken 44 = .ok (.getfield 20, 3) := by decide +kernel
theorem dX7_nearestNotTaken_47 : decode cX7_nearestNotTaken 47 = .ok (.iload_n 1, 1) := by decide +kernel
theorem dX7_nearestNotTaken_48 : decode cX7_nearestNotTaken 48 = .ok (.iload 5, 2) := by decide +kernel
theorem dX7_nearestNotTaken_50 : decode cX7_nearestNotTaken 50 = .ok (.invokevirtual 48, 3) := by decide +kernel
theorem dX7_nearestNotTaken_53 : decode cX7_nearestNotTaken 53 = .ok (.istore 4, 2) := by decide +kernel
theorem dX7_nearestNotTaken_55 : decode cX7_nearestNotTaken 55 = .ok (.iinc 5 1, 3) := by decide +kernel
theorem dX7_nearestNotTaken_58 : decode cX7_nearestNotTaken 58 = .ok (.goto (-49), 3) := by decide +kernel
theorem dX7_nearestNotTaken_61 : decode cX7_nearestNotTaken 61 = .ok (.iload_n 3, 1) := by decide +kernel
theorem dX7_nearestNotTaken_62 : decode cX7_nearestNotTaken 62 = .ok (.ireturn, 1) := by decide +kernel
theorem dX7_leastByRounds_0 : decode cX7_leastByRounds 0 = .ok (.iconst 0, 1) := by decide +kernel
theorem dX7_leastByRounds_1 : decode cX7_leastByRounds 1 = .ok (.istore 4, 2) := by decide +kernel
theorem dX7_leastByRounds_3 : decode cX7_leastByRounds 3 = .ok (.iload 4, 2) := by decide +kernel
theorem dX7_leastByRounds_5 : decode cX7_leastByRounds 5 = .ok (.bipush 10, 2) := by decide +kernel
theorem dX7_leastByRounds_7 : decode cX7_leastByRounds 7 = .ok (.if_icmp .ge 31, 3) := by decide +kernel
theorem dX7_leastByRounds_10 : decode cX7_leastByRounds 10 = .ok (.aload_n 0, 1) := by decide +kernel
theorem dX7_leastByRounds_11 : decode cX7_leastByRounds 11 = .ok (.getfield 23, 3) := by decide +kernel
theorem dX7_leastByRounds_14 : decode cX7_leastByRounds 14 = .ok (.iconst 0, 1) := by decide +kernel
theorem dX7_leastByRounds_15 : decode cX7_leastByRounds 15 = .ok (.iload 4, 2) := by decide +kernel
theorem dX7_leastByRounds_17 : decode cX7_leastByRounds 17 = .ok (.iload 4, 2) := by decide +kernel
theorem dX7_leastByRounds_19 : decode cX7_leastByRounds 19 = .ok (.iload_n 2, 1) := by decide +kernel
theorem dX7_leastByRounds_20 : decode cX7_leastByRounds 20 = .ok (.if_icmp .ne 7, 3) := by decide +kernel
theorem dX7_leastByRounds_23 : decode cX7_leastByRounds 23 = .ok (.iconst 0, 1) := by decide +kernel
theorem dX7_leastByRounds_24 : decode cX7_leastByRounds 24 = .ok (.goto 5, 3) := by decide +kernel
theorem dX7_leastByRounds_27 : decode cX7_leastByRounds 27 = .ok (.ldc 64, 2) := by decide +kernel
theorem dX7_leastByRounds_29 : decode cX7_leastByRounds 29 = .ok (.invokevirtual 26, 3) := by decide +kernel
theorem dX7_leastByRounds_32 : decode cX7_leastByRounds 32 = .ok (.iinc 4 1, 3) := by decide +kernel
theorem dX7_leastByRounds_35 : decode cX7_leastByRounds 35 = .ok (.goto (-32), 3) := by decide +kernel
theorem dX7_leastByRounds_38 : decode cX7_leastByRounds 38 = .ok (.iconst 1, 1) := by decide +kernel
theorem dX7_leastByRounds_39 : decode cX7_leastByRounds 39 = .ok (.istore 4, 2) := by decide +kernel
theorem dX7_leastByRounds_41 : decode cX7_leastByRounds 41 = .ok (.iconst 0, 1) := by decide +kernel
theorem dX7_leastByRounds_42 : decode cX7_leastByRounds 42 = .ok (.istore 5, 2) := by decide +kernel
theorem dX7_leastByRounds_44 : decode cX7_leastByRounds 44 = .ok (.iload 4, 2) := by decide +kernel
theorem dX7_leastByRounds_46 : decode cX7_leastByRounds 46 = .ok (.ifCond .eq 75, 3) := by decide +kernel
theorem dX7_leastByRounds_49 : decode cX7_leastByRounds 49 = .ok (.iload 5, 2) := by decide +kernel
theorem dX7_leastByRounds_51 : decode cX7_leastByRounds 51 = .ok (.bipush 10, 2) := by decide +kernel
theorem dX7_leastByRounds_53 : decode cX7_leastByRounds 53 = .ok (.if_icmp .ge 68, 3) := by decide +kernel
theorem dX7_leastByRounds_56 : decode cX7_leastByRounds 56 = .ok (.iconst 0, 1) := by decide +kernel
theorem dX7_leastByRounds_57 : decode cX7_leastByRounds 57 = .ok (.istore 4, 2) := by decide +kernel
theorem dX7_leastByRounds_59 : decode cX7_leastByRounds 59 = .ok (.iconst 0, 1) := by decide +kernel
theorem dX7_leastByRounds_60 : decode cX7_leastByRounds 60 = .ok (.istore 6, 2) := by decide +kernel
theorem dX7_leastByRounds_62 : decode cX7_leastByRounds 62 = .ok (.iload 6, 2) := by decide +kernel
theorem dX7_leastByRounds_64 : decode cX7_leastByRounds 64 = .ok (.aload_n 1, 1) := by decide +kernel
theorem dX7_leastByRounds_65 : decode cX7_leastByRounds 65 = .ok (.invokevirtual 65, 3) := by decide +kernel
theorem dX7_leastByRounds_68 : decode cX7_leastByRounds 68 = .ok (.if_icmp .ge 47, 3) := by decide +kernel
theorem dX7_leastByRounds_71 : decode cX7_leastByRounds 71 = .ok (.aload_n 1, 1) := by decide +kernel
theorem dX7_leastByRounds_72 : decode cX7_leastByRounds 72 = .ok (.iload 6, 2) := by decide +kernel
theorem dX7_leastByRounds_74 : decode cX7_leastByRounds 74 = .ok (.invokevirtual 71, 3) := by decide +kernel
theorem dX7_leastByRounds_77 : decode cX7_leastByRounds 77 = .ok (.checkcast 31, 3) := by decide +kernel
theorem dX7_leastByRounds_80 : decode cX7_leastByRounds 80 = .ok (.astore 7, 2) := by decide +kernel
theorem dX7_leastByRounds_82 : decode cX7_leastByRounds 82 = .ok (.aload_n 0, 1) := by decide +kernel
theorem dX7_leastByRounds_83 : decode cX7_leastByRounds 83 = .ok (.aload 7, 2) := by decide +kernel
theorem dX7_leastByRounds_85 : decode cX7_leastByRounds 85 = .ok (.getfield 30, 3) := by decide +kernel
theorem dX7_leastByRounds_88 : decode cX7_leastByRounds 88 = .ok (.invokevirtual 75, 3) := by decide +kernel
theorem dX7_leastByRounds_91 : decode cX7_leastByRounds 91 = .ok (.ifCond .ne 15, 3) := by decide +kernel
theorem dX7_leastByRounds_94 : decode cX7_leastByRounds 94 = .ok (.aload_n 0, 1) := by decide +kernel
theorem dX7_leastByRounds_95 : decode cX7_leastByRounds 95 = .ok (.aload 7, 2) := by decide +kernel
theorem dX7_leastByRounds_97 : decode cX7_leastByRounds 97 = .ok (.getfield 79, 3) := by decide +kernel
theorem dX7_leastByRounds_100 : decode cX7_leastByRounds 100 = .ok (.invokevirtual 75, 3) := by decide +kernel
theorem dX7_leastByRounds_103 : decode cX7_leastByRounds 103 = .ok (.ifCond .eq 6, 3) := by decide +kernel
theorem dX7_leastByRounds_106 : decode cX7_leastByRounds 106 = .ok (.iconst 1, 1) := by decide +kernel
theorem dX7_leastByRounds_107 : decode cX7_leastByRounds 107 = .ok (.istore 4, 2) := by decide +kernel
theorem dX7_leastByRounds_109 : decode cX7_leastByRounds 109 = .ok (.iinc 6 1, 3) := by decide +kernel
theorem dX7_leastByRounds_112 : decode cX7_leastByRounds 112 = .ok (.goto (-50), 3) := by decide +kernel
theorem dX7_leastByRounds_115 : decode cX7_leastByRounds 115 = .ok (.iinc 5 1, 3) := by decide +kernel
theorem dX7_leastByRounds_118 : decode cX7_leastByRounds 118 = .ok (.goto (-74), 3) := by decide +kernel
theorem dX7_leastByRounds_121 : decode cX7_leastByRounds 121 = .ok (.aload_n 0, 1) := by decide +kernel
theorem dX7_leastByRounds_122 : decode cX7_leastByRounds 122 = .ok (.getfield 23, 3) := by decide +kernel
theorem dX7_leastByRounds_125 : decode cX7_leastByRounds 125 = .ok (.iconst 0, 1) := by decide +kernel
theorem dX7_leastByRounds_126 : decode cX7_leastByRounds 126 = .ok (.iload_n 3, 1) := by decide +kernel
theorem dX7_leastByRounds_127 : decode cX7_leastByRounds 127 = .ok (.invokevirtual 48, 3) := by decide +kernel
theorem dX7_leastByRounds_130 : decode cX7_leastByRounds 130 = .ok (.ireturn, 1) := by decide +kernel
theorem dX7_reachBy_0 : decode cX7_reachBy 0 = .ok (.aload_n 0, 1) := by decide +kernel
theorem dX7_reachBy_1 : decode cX7_reachBy 1 = .ok (.getfield 23, 3) := by decide +kernel
theorem dX7_reachBy_4 : decode cX7_reachBy 4 = .ok (.iconst 0, 1) := by decide +kernel
theorem dX7_reachBy_5 : decode cX7_reachBy 5 = .ok (.aload_n 1, 1) := by decide +kernel
theorem dX7_reachBy_6 : decode cX7_reachBy 6 = .ok (.getfield 40, 3) := by decide +kernel
theorem dX7_reachBy_9 : decode cX7_reachBy 9 = .ok (.invokevirtual 48, 3) := by decide +kernel
theorem dX7_reachBy_12 : decode cX7_reachBy 12 = .ok (.aload_n 1, 1) := by decide +kernel
theorem dX7_reachBy_13 : decode cX7_reachBy 13 = .ok (.getfield 82, 3) := by decide +kernel
theorem dX7_reachBy_16 : decode cX7_reachBy 16 = .ok (.iadd, 1) := by decide +kernel
theorem dX7_reachBy_17 : decode cX7_reachBy 17 = .ok (.istore_n 2, 1) := by decide +kernel
theorem dX7_reachBy_18 : decode cX7_reachBy 18 = .ok (.iload_n 2, 1) := by decide +kernel
theorem dX7_reachBy_19 : decode cX7_reachBy 19 = .ok (.aload_n 0, 1) := by decide +kernel
theorem dX7_reachBy_20 : decode cX7_reachBy 20 = .ok (.getfield 23, 3) := by decide +kernel
theorem dX7_reachBy_23 : decode cX7_reachBy 23 = .ok (.iconst 0, 1) := by decide +kernel
theorem dX7_reachBy_24 : decode cX7_reachBy 24 = .ok (.aload_n 1, 1) := by decide +kernel
theorem dX7_reachBy_25 : decode cX7_reachBy 25 = .ok (.getfield 45, 3) := by decide +kernel
theorem dX7_reachBy_28 : decode cX7_reachBy 28 = .ok (.invokevirtual 48, 3) := by decide +kernel
theorem dX7_reachBy_31 : decode cX7_reachBy 31 = .ok (.if_icmp .lt 5, 3) := by decide +kernel
theorem dX7_reachBy_34 : decode cX7_reachBy 34 = .ok (.iconst 0, 1) := by decide +kernel
theorem dX7_reachBy_35 : decode cX7_reachBy 35 = .ok (.ireturn, 1) := by decide +kernel
theorem dX7_reachBy_36 : decode cX7_reachBy 36 = .ok (.aload_n 0, 1) := by decide +kernel
theorem dX7_reachBy_37 : decode cX7_reachBy 37 = .ok (.getfield 23, 3) := by decide +kernel
theorem dX7_reachBy_40 : decode cX7_reachBy 40 = .ok (.iconst 0, 1) := by decide +kernel
theorem dX7_reachBy_41 : decode cX7_reachBy 41 = .ok (.aload_n 1, 1) := by decide +kernel
theorem dX7_reachBy_42 : decode cX7_reachBy 42 = .ok (.getfield 45, 3) := by decide +kernel
theorem dX7_reachBy_45 : decode cX7_reachBy 45 = .ok (.iload_n 2, 1) := by decide +kernel
theorem dX7_reachBy_46 : decode cX7_reachBy 46 = .ok (.invokevirtual 26, 3) := by decide +kernel
theorem dX7_reachBy_49 : decode cX7_reachBy 49 = .ok (.iconst 1, 1) := by decide +kernel
theorem dX7_reachBy_50 : decode cX7_reachBy 50 = .ok (.ireturn, 1) := by decide +kernel
theorem dX7_nextPlace_0 : decode cX7_nextPlace 0 = .ok (.iconst 0, 1) := by decide +kernel
theorem dX7_nextPlace_1 : decode cX7_nextPlace 1 = .ok (.istore_n 3, 1) := by decide +kernel
theorem dX7_nextPlace_2 : decode cX7_nextPlace 2 = .ok (.iload_n 3, 1) := by decide +kernel
theorem dX7_nextPlace_3 : decode cX7_nextPlace 3 = .ok (.bipush 10, 2) := by decide +kernel
theorem dX7_nextPlace_5 : decode cX7_nextPlace 5 = .ok (.if_icmp .ge 42, 3) := by decide +kernel
theorem dX7_nextPlace_8 : decode cX7_nextPlace 8 = .ok (.aload_n 0, 1) := by decide +kernel
theorem dX7_nextPlace_9 : decode cX7_nextPlace 9 = .ok (.getfield 14, 3) := by decide +kernel
theorem dX7_nextPlace_12 : decode cX7_nextPlace 12 = .ok (.iload_n 1, 1) := by decide +kernel
theorem dX7_nextPlace_13 : decode cX7_nextPlace 13 = .ok (.iload_n 3, 1) := by decide +kernel
theorem dX7_nextPlace_14 : decode cX7_nextPlace 14 = .ok (.invokevirtual 48, 3) := by decide +kernel
theorem dX7_nextPlace_17 : decode cX7_nextPlace 17 = .ok (.aload_n 0, 1) := by decide +kernel
theorem dX7_nextPlace_18 : decode cX7_nextPlace 18 = .ok (.getfield 20, 3) := by decide +kernel
theorem dX7_nextPlace_21 : decode cX7_nextPlace 21 = .ok (.iload_n 3, 1) := by decide +kernel
theorem dX7_nextPlace_22 : decode cX7_nextPlace 22 = .ok (.iload_n 2, 1) := by decide +kernel
theorem dX7_nextPlace_23 : decode cX7_nextPlace 23 = .ok (.invokevirtual 48, 3) := by decide +kernel
theorem dX7_nextPlace_26 : decode cX7_nextPlace 26 = .ok (.iadd, 1) := by decide +kernel
theorem dX7_nextPlace_27 : decode cX7_nextPlace 27 = .ok (.aload_n 0, 1) := by decide +kernel
theorem dX7_nextPlace_28 : decode cX7_nextPlace 28 = .ok (.getfield 20, 3) := by decide +kernel
theorem dX7_nextPlace_31 : decode cX7_nextPlace 31 = .ok (.iload_n 1, 1) := by decide +kernel
theorem dX7_nextPlace_32 : decode cX7_nextPlace 32 = .ok (.iload_n 2, 1) := by decide +kernel
theorem dX7_nextPlace_33 : decode cX7_nextPlace 33 = .ok (.invokevirtual 48, 3) := by decide +kernel
theorem dX7_nextPlace_36 : decode cX7_nextPlace 36 = .ok (.if_icmp .ne 5, 3) := by decide +kernel
theorem dX7_nextPlace_39 : decode cX7_nextPlace 39 = .ok (.iload_n 3, 1) := by decide +kernel
theorem dX7_nextPlace_40 : decode cX7_nextPlace 40 = .ok (.ireturn, 1) := by decide +kernel
theorem dX7_nextPlace_41 : decode cX7_nextPlace 41 = .ok (.iinc 3 1, 3) := by decide +kernel
theorem dX7_nextPlace_44 : decode cX7_nextPlace 44 = .ok (.goto (-42), 3) := by decide +kernel
theorem dX7_nextPlace_47 : decode cX7_nextPlace 47 = .ok (.iload_n 2, 1) := by decide +kernel
theorem dX7_nextPlace_48 : decode cX7_nextPlace 48 = .ok (.ireturn, 1) := by decide +kernel
theorem dJ9_max_7cf53_0 : decode cJ9_max_7cf53 0 = .ok (.iload_n 0, 1) := by decide +kernel
theorem dJ9_max_7cf53_1 : decode cJ9_max_7cf53 1 = .ok (.iload_n 1, 1) := by decide +kernel
theorem dJ9_max_7cf53_2 : decode cJ9_max_7cf53 2 = .ok (.if_icmp .lt 7, 3) := by decide +kernel
theorem dJ9_max_7cf53_5 : decode cJ9_max_7cf53 5 = .ok (.iload_n 0, 1) := by decide +kernel
theorem dJ9_max_7cf53_6 : decode cJ9_max_7cf53 6 = .ok (.goto 4, 3) := by decide +kernel
theorem dJ9_max_7cf53_9 : decode cJ9_max_7cf53 9 = .ok (.iload_n 1, 1) := by decide +kernel
theorem dJ9_max_7cf53_10 : decode cJ9_max_7cf53 10 = .ok (.ireturn, 1) := by decide +kernel
theorem dJ9_min_7cf53_0 : decode cJ9_min_7cf53 0 = .ok (.iload_n 0, 1) := by decide +kernel
theorem dJ9_min_7cf53_1 : decode cJ9_min_7cf53 1 = .ok (.iload_n 1, 1) := by decide +kernel
theorem dJ9_min_7cf53_2 : decode cJ9_min_7cf53 2 = .ok (.if_icmp .gt 7, 3) := by decide +kernel
theorem dJ9_min_7cf53_5 : decode cJ9_min_7cf53 5 = .ok (.iload_n 0, 1) := by decide +kernel
theorem dJ9_min_7cf53_6 : decode cJ9_min_7cf53 6 = .ok (.goto 4, 3) := by decide +kernel
theorem dJ9_min_7cf53_9 : decode cJ9_min_7cf53 9 = .ok (.iload_n 1, 1) := by decide +kernel
theorem dJ9_min_7cf53_10 : decode cJ9_min_7cf53 10 = .ok (.ireturn, 1) := by decide +kernel
theorem dJxa1e45_init_da8c8_0 : decode cJxa1e45_init_da8c8 0 = .ok (.aload_n 0, 1) := by decide +kernel
theorem dJxa1e45_init_da8c8_1 : decode cJxa1e45_init_da8c8 1 = .ok (.invokespecial 1, 3) := by decide +kernel
theorem dJxa1e45_init_da8c8_4 : decode cJxa1e45_init_da8c8 4 = .ok (.return_, 1) := by decide +kernel
theorem dJxc12de_init_da8c8_0 : decode cJxc12de_init_da8c8 0 = .ok (.aload_n 0, 1) := by decide +kernel
theorem dJxc12de_init_da8c8_1 : decode cJxc12de_init_da8c8 1 = .ok (.invokespecial 1, 3) := by decide +kernel
theorem dJxc12de_init_da8c8_4 : decode cJxc12de_init_da8c8 4 = .ok (.aload_n 0, 1) := by decide +kernel
theorem dJxc12de_init_da8c8_5 : decode cJxc12de_init_da8c8 5 = .ok (.iconst 0, 1) := by decide +kernel
theorem dJxc12de_init_da8c8_6 : decode cJxc12de_init_da8c8 6 = .ok (.putfield 7, 3) := by decide +kernel
theorem dJxc12de_init_da8c8_9 : decode cJxc12de_init_da8c8 9 = .ok (.return_, 1) := by decide +kernel
theorem dJx4a65c_init_da8c8_0 : decode cJx4a65c_init_da8c8 0 = .ok (.aload_n 0, 1) := by decide +kernel
theorem dJx4a65c_init_da8c8_1 : decode cJx4a65c_init_da8c8 1 = .ok (.invokespecial 1, 3) := by decide +kernel
theorem dJx4a65c_init_da8c8_4 : decode cJx4a65c_init_da8c8 4 = .ok (.aload_n 0, 1) := by decide +kernel
theorem dJx4a65c_init_da8c8_5 : decode cJx4a65c_init_da8c8 5 = .ok (.getstatic 39, 3) := by decide +kernel
theorem dJx4a65c_init_da8c8_8 : decode cJx4a65c_init_da8c8 8 = .ok (.putfield 9, 3) := by decide +kernel
theorem dJx4a65c_init_da8c8_11 : decode cJx4a65c_init_da8c8 11 = .ok (.return_, 1) := by decide +kernel
theorem dJx4a65c_grow_92f84_0 : decode cJx4a65c_grow_92f84 0 = .ok (.aload_n 0, 1) := by decide +kernel
theorem dJx4a65c_grow_92f84_1 : decode cJx4a65c_grow_92f84 1 = .ok (.getfield 9, 3) := by decide +kernel
theorem dJx4a65c_grow_92f84_4 : decode cJx4a65c_grow_92f84 4 = .ok (.arraylength, 1) := by decide +kernel
theorem dJx4a65c_grow_92f84_5 : decode cJx4a65c_grow_92f84 5 = .ok (.istore_n 2, 1) := by decide +kernel
theorem dJx4a65c_grow_92f84_6 : decode cJx4a65c_grow_92f84 6 = .ok (.iload_n 2, 1) := by decide +kernel
theorem dJx4a65c_grow_92f84_7 : decode cJx4a65c_grow_92f84 7 = .ok (.ifCond .gt 13, 3) := by decide +kernel
theorem dJx4a65c_grow_92f84_10 : decode cJx4a65c_grow_92f84 10 = .ok (.aload_n 0, 1) := by decide +kernel
theorem dJx4a65c_grow_92f84_11 : decode cJx4a65c_grow_92f84 11 = .ok (.getfield 9, 3) := by decide +kernel
theorem dJx4a65c_grow_92f84_14 : decode cJx4a65c_grow_92f84 14 = .ok (.getstatic 39, 3) := by decide +kernel
theorem dJx4a65c_grow_92f84_17 : decode cJx4a65c_grow_92f84 17 = .ok (.if_acmp .eq 28, 3) := by decide +kernel
theorem dJx4a65c_grow_92f84_20 : decode cJx4a65c_grow_92f84 20 = .ok (.iload_n 2, 1) := by decide +kernel
theorem dJx4a65c_grow_92f84_21 : decode cJx4a65c_grow_92f84 21 = .ok (.iload_n 1, 1) := by decide +kernel
theorem dJx4a65c_grow_92f84_22 : decode cJx4a65c_grow_92f84 22 = .ok (.iload_n 2, 1) := by decide +kernel
theorem dJx4a65c_grow_92f84_23 : decode cJx4a65c_grow_92f84 23 = .ok (.isub, 1) := by decide +kernel
theorem dJx4a65c_grow_92f84_24 : decode cJx4a65c_grow_92f84 24 = .ok (.iload_n 2, 1) := by decide +kernel
theorem dJx4a65c_grow_92f84_25 : decode cJx4a65c_grow_92f84 25 = .ok (.iconst 1, 1) := by decide +kernel
theorem dJx4a65c_grow_92f84_26 : decode cJx4a65c_grow_92f84 26 = .ok (.ishr, 1) := by decide +kernel
theorem dJx4a65c_grow_92f84_27 : decode cJx4a65c_grow_92f84 27 = .ok (.invokestatic 73, 3) := by decide +kernel
theorem dJx4a65c_grow_92f84_30 : decode cJx4a65c_grow_92f84 30 = .ok (.istore_n 3, 1) := by decide +kernel
theorem dJx4a65c_grow_92f84_31 : decode cJx4a65c_grow_92f84 31 = .ok (.aload_n 0, 1) := by decide +kernel
theorem dJx4a65c_grow_92f84_32 : decode cJx4a65c_grow_92f84 32 = .ok (.aload_n 0, 1) := by decide +kernel
theorem dJx4a65c_grow_92f84_33 : decode cJx4a65c_grow_92f84 33 = .ok (.getfield 9, 3) := by decide +kernel
theorem dJx4a65c_grow_92f84_36 : decode cJx4a65c_grow_92f84 36 = .ok (.iload_n 3, 1) := by decide +kernel
theorem dJx4a65c_grow_92f84_37 : decode cJx4a65c_grow_92f84 37 = .ok (.invokestatic 66, 3) := by decide +kernel
theorem dJx4a65c_grow_92f84_40 : decode cJx4a65c_grow_92f84 40 = .ok (.dup_x1, 1) := by decide +kernel
theorem dJx4a65c_grow_92f84_41 : decode cJx4a65c_grow_92f84 41 = .ok (.putfield 9, 3) := by decide +kernel
theorem dJx4a65c_grow_92f84_44 : decode cJx4a65c_grow_92f84 44 = .ok (.areturn, 1) := by decide +kernel
theorem dJx4a65c_grow_92f84_45 : decode cJx4a65c_grow_92f84 45 = .ok (.aload_n 0, 1) := by decide +kernel
theorem dJx4a65c_grow_92f84_46 : decode cJx4a65c_grow_92f84 46 = .ok (.bipush 10, 2) := by decide +kernel
theorem dJx4a65c_grow_92f84_48 : decode cJx4a65c_grow_92f84 48 = .ok (.iload_n 1, 1) := by decide +kernel
theorem dJx4a65c_grow_92f84_49 : decode cJx4a65c_grow_92f84 49 = .ok (.invokestatic 79, 3) := by decide +kernel
theorem dJx4a65c_grow_92f84_52 : decode cJx4a65c_grow_92f84 52 = .ok (.anewarray 7, 3) := by decide +kernel
theorem dJx4a65c_grow_92f84_55 : decode cJx4a65c_grow_92f84 55 = .ok (.dup_x1, 1) := by decide +kernel
theorem dJx4a65c_grow_92f84_56 : decode cJx4a65c_grow_92f84 56 = .ok (.putfield 9, 3) := by decide +kernel
theorem dJx4a65c_grow_92f84_59 : decode cJx4a65c_grow_92f84 59 = .ok (.areturn, 1) := by decide +kernel
theorem dJx4a65c_grow_d5877_0 : decode cJx4a65c_grow_d5877 0 = .ok (.aload_n 0, 1) := by decide +kernel
theorem dJx4a65c_grow_d5877_1 : decode cJx4a65c_grow_d5877 1 = .ok (.aload_n 0, 1) := by decide +kernel
theorem dJx4a65c_grow_d5877_2 : decode cJx4a65c_grow_d5877 2 = .ok (.getfield 48, 3) := by decide +kernel
theorem dJx4a65c_grow_d5877_5 : decode cJx4a65c_grow_d5877 5 = .ok (.iconst 1, 1) := by decide +kernel
theorem dJx4a65c_grow_d5877_6 : decode cJx4a65c_grow_d5877 6 = .ok (.iadd, 1) := by decide +kernel
theorem dJx4a65c_grow_d5877_7 : decode cJx4a65c_grow_d5877 7 = .ok (.invokevirtual 69, 3) := by decide +kernel
theorem dJx4a65c_grow_d5877_10 : decode cJx4a65c_grow_d5877 10 = .ok (.areturn, 1) := by decide +kernel
theorem dJx4a65c_size_8abf5_0 : decode cJx4a65c_size_8abf5 0 = .ok (.aload_n 0, 1) := by decide +kernel
theorem dJx4a65c_size_8abf5_1 : decode cJx4a65c_size_8abf5 1 = .ok (.getfield 48, 3) := by decide +kernel
theorem dJx4a65c_size_8abf5_4 : decode cJx4a65c_size_8abf5 4 = .ok (.ireturn, 1) := by decide +kernel
theorem dJx4a65c_elementData_915e3_0 : decode cJx4a65c_elementData_915e3 0 = .ok (.aload_n 0, 1) := by decide +kernel
theorem dJx4a65c_elementData_915e3_1 : decode cJx4a65c_elementData_915e3 1 = .ok (.getfield 9, 3) := by decide +kernel
theorem dJx4a65c_elementData_915e3_4 : decode cJx4a65c_elementData_915e3 4 = .ok (.iload_n 1, 1) := by decide +kernel
theorem dJx4a65c_elementData_915e3_5 : decode cJx4a65c_elementData_915e3 5 = .ok (.aaload, 1) := by decide +kernel
theorem dJx4a65c_elementData_915e3_6 : decode cJx4a65c_elementData_915e3 6 = .ok (.areturn, 1) := by decide +kernel
theorem dJx4a65c_get_915e3_0 : decode cJx4a65c_get_915e3 0 = .ok (.iload_n 1, 1) := by decide +kernel
theorem dJx4a65c_get_915e3_1 : decode cJx4a65c_get_915e3 1 = .ok (.aload_n 0, 1) := by decide +kernel
theorem dJx4a65c_get_915e3_2 : decode cJx4a65c_get_915e3 2 = .ok (.getfield 48, 3) := by decide +kernel
theorem dJx4a65c_get_915e3_5 : decode cJx4a65c_get_915e3 5 = .ok (.invokestatic 118, 3) := by decide +kernel
theorem dJx4a65c_get_915e3_8 : decode cJx4a65c_get_915e3 8 = .ok (.pop, 1) := by decide +kernel
theorem dJx4a65c_get_915e3_9 : decode cJx4a65c_get_915e3 9 = .ok (.aload_n 0, 1) := by decide +kernel
theorem dJx4a65c_get_915e3_10 : decode cJx4a65c_get_915e3 10 = .ok (.iload_n 1, 1) := by decide +kernel
theorem dJx4a65c_get_915e3_11 : decode cJx4a65c_get_915e3 11 = .ok (.invokevirtual 123, 3) := by decide +kernel
theorem dJx4a65c_get_915e3_14 : decode cJx4a65c_get_915e3 14 = .ok (.areturn, 1) := by decide +kernel
theorem dJx4a65c_add_72be8_0 : decode cJx4a65c_add_72be8 0 = .ok (.iload_n 3, 1) := by decide +kernel
theorem dJx4a65c_add_72be8_1 : decode cJx4a65c_add_72be8 1 = .ok (.aload_n 2, 1) := by decide +kernel
theorem dJx4a65c_add_72be8_2 : decode cJx4a65c_add_72be8 2 = .ok (.arraylength, 1) := by decide +kernel
theorem dJx4a65c_add_72be8_3 : decode cJx4a65c_add_72be8 3 = .ok (.if_icmp .ne 8, 3) := by decide +kernel
theorem dJx4a65c_add_72be8_6 : decode cJx4a65c_add_72be8 6 = .ok (.aload_n 0, 1) := by decide +kernel
theorem dJx4a65c_add_72be8_7 : decode cJx4a65c_add_72be8 7 = .ok (.invokevirtual 129, 3) := by decide +kernel
theorem dJx4a65c_add_72be8_10 : decode cJx4a65c_add_72be8 10 = .ok (.astore_n 2, 1) := by decide +kernel
theorem dJx4a65c_add_72be8_11 : decode cJx4a65c_add_72be8 11 = .ok (.aload_n 2, 1) := by decide +kernel
theorem dJx4a65c_add_72be8_12 : decode cJx4a65c_add_72be8 12 = .ok (.iload_n 3, 1) := by decide +kernel
theorem dJx4a65c_add_72be8_13 : decode cJx4a65c_add_72be8 13 = .ok (.aload_n 1, 1) := by decide +kernel
theorem dJx4a65c_add_72be8_14 : decode cJx4a65c_add_72be8 14 = .ok (.aastore, 1) := by decide +kernel
theorem dJx4a65c_add_72be8_15 : decode cJx4a65c_add_72be8 15 = .ok (.aload_n 0, 1) := by decide +kernel
theorem dJx4a65c_add_72be8_16 : decode cJx4a65c_add_72be8 16 = .ok (.iload_n 3, 1) := by decide +kernel
theorem dJx4a65c_add_72be8_17 : decode cJx4a65c_add_72be8 17 = .ok (.iconst 1, 1) := by decide +kernel
theorem dJx4a65c_add_72be8_18 : decode cJx4a65c_add_72be8 18 = .ok (.iadd, 1) := by decide +kernel
theorem dJx4a65c_add_72be8_19 : decode cJx4a65c_add_72be8 19 = .ok (.putfield 48, 3) := by decide +kernel
theorem dJx4a65c_add_72be8_22 : decode cJx4a65c_add_72be8 22 = .ok (.return_, 1) := by decide +kernel
theorem dJx4a65c_add_9ea2d_0 : decode cJx4a65c_add_9ea2d 0 = .ok (.aload_n 0, 1) := by decide +kernel
theorem dJx4a65c_add_9ea2d_1 : decode cJx4a65c_add_9ea2d 1 = .ok (.dup, 1) := by decide +kernel
theorem dJx4a65c_add_9ea2d_2 : decode cJx4a65c_add_9ea2d 2 = .ok (.getfield 63, 3) := by decide +kernel
theorem dJx4a65c_add_9ea2d_5 : decode cJx4a65c_add_9ea2d 5 = .ok (.iconst 1, 1) := by decide +kernel
theorem dJx4a65c_add_9ea2d_6 : decode cJx4a65c_add_9ea2d 6 = .ok (.iadd, 1) := by decide +kernel
theorem dJx4a65c_add_9ea2d_7 : decode cJx4a65c_add_9ea2d 7 = .ok (.putfield 63, 3) := by decide +kernel
theorem dJx4a65c_add_9ea2d_10 : decode cJx4a65c_add_9ea2d 10 = .ok (.aload_n 0, 1) := by decide +kernel
theorem dJx4a65c_add_9ea2d_11 : decode cJx4a65c_add_9ea2d 11 = .ok (.aload_n 1, 1) := by decide +kernel
theorem dJx4a65c_add_9ea2d_12 : decode cJx4a65c_add_9ea2d 12 = .ok (.aload_n 0, 1) := by decide +kernel
theorem dJx4a65c_add_9ea2d_13 : decode cJx4a65c_add_9ea2d 13 = .ok (.getfield 9, 3) := by decide +kernel
theorem dJx4a65c_add_9ea2d_16 : decode cJx4a65c_add_9ea2d 16 = .ok (.aload_n 0, 1) := by decide +kernel
theorem dJx4a65c_add_9ea2d_17 : decode cJx4a65c_add_9ea2d 17 = .ok (.getfield 48, 3) := by decide +kernel
theorem dJx4a65c_add_9ea2d_20 : decode cJx4a65c_add_9ea2d 20 = .ok (.invokevirtual 131, 3) := by decide +kernel
theorem dJx4a65c_add_9ea2d_23 : decode cJx4a65c_add_9ea2d 23 = .ok (.iconst 1, 1) := by decide +kernel
theorem dJx4a65c_add_9ea2d_24 : decode cJx4a65c_add_9ea2d 24 = .ok (.ireturn, 1) := by decide +kernel
theorem dJx4a65c_clear_da8c8_0 : decode cJx4a65c_clear_da8c8 0 = .ok (.aload_n 0, 1) := by decide +kernel
theorem dJx4a65c_clear_da8c8_1 : decode cJx4a65c_clear_da8c8 1 = .ok (.dup, 1) := by decide +kernel
theorem dJx4a65c_clear_da8c8_2 : decode cJx4a65c_clear_da8c8 2 = .ok (.getfield 63, 3) := by decide +kernel
theorem dJx4a65c_clear_da8c8_5 : decode cJx4a65c_clear_da8c8 5 = .ok (.iconst 1, 1) := by decide +kernel
theorem dJx4a65c_clear_da8c8_6 : decode cJx4a65c_clear_da8c8 6 = .ok (.iadd, 1) := by decide +kernel
theorem dJx4a65c_clear_da8c8_7 : decode cJx4a65c_clear_da8c8 7 = .ok (.putfield 63, 3) := by decide +kernel
theorem dJx4a65c_clear_da8c8_10 : decode cJx4a65c_clear_da8c8 10 = .ok (.aload_n 0, 1) := by decide +kernel
theorem dJx4a65c_clear_da8c8_11 : decode cJx4a65c_clear_da8c8 11 = .ok (.getfield 9, 3) := by decide +kernel
theorem dJx4a65c_clear_da8c8_14 : decode cJx4a65c_clear_da8c8 14 = .ok (.astore_n 1, 1) := by decide +kernel
theorem dJx4a65c_clear_da8c8_15 : decode cJx4a65c_clear_da8c8 15 = .ok (.aload_n 0, 1) := by decide +kernel
theorem dJx4a65c_clear_da8c8_16 : decode cJx4a65c_clear_da8c8 16 = .ok (.getfield 48, 3) := by decide +kernel
theorem dJx4a65c_clear_da8c8_19 : decode cJx4a65c_clear_da8c8 19 = .ok (.istore_n 2, 1) := by decide +kernel
theorem dJx4a65c_clear_da8c8_20 : decode cJx4a65c_clear_da8c8 20 = .ok (.aload_n 0, 1) := by decide +kernel
theorem dJx4a65c_clear_da8c8_21 : decode cJx4a65c_clear_da8c8 21 = .ok (.iconst 0, 1) := by decide +kernel
theorem dJx4a65c_clear_da8c8_22 : decode cJx4a65c_clear_da8c8 22 = .ok (.dup_x1, 1) := by decide +kernel
theorem dJx4a65c_clear_da8c8_23 : decode cJx4a65c_clear_da8c8 23 = .ok (.putfield 48, 3) := by decide +kernel
theorem dJx4a65c_clear_da8c8_26 : decode cJx4a65c_clear_da8c8 26 = .ok (.istore_n 3, 1) := by decide +kernel
theorem dJx4a65c_clear_da8c8_27 : decode cJx4a65c_clear_da8c8 27 = .ok (.iload_n 3, 1) := by decide +kernel
theorem dJx4a65c_clear_da8c8_28 : decode cJx4a65c_clear_da8c8 28 = .ok (.iload_n 2, 1) := by decide +kernel
theorem dJx4a65c_clear_da8c8_29 : decode cJx4a65c_clear_da8c8 29 = .ok (.if_icmp .ge 13, 3) := by decide +kernel
theorem dJx4a65c_clear_da8c8_32 : decode cJx4a65c_clear_da8c8 32 = .ok (.aload_n 1, 1) := by decide +kernel
theorem dJx4a65c_clear_da8c8_33 : decode cJx4a65c_clear_da8c8 33 = .ok (.iload_n 3, 1) := by decide +kernel
theorem dJx4a65c_clear_da8c8_34 : decode cJx4a65c_clear_da8c8 34 = .ok (.aconst_null, 1) := by decide +kernel
theorem dJx4a65c_clear_da8c8_35 : decode cJx4a65c_clear_da8c8 35 = .ok (.aastore, 1) := by decide +kernel
theorem dJx4a65c_clear_da8c8_36 : decode cJx4a65c_clear_da8c8 36 = .ok (.iinc 3 1, 3) := by decide +kernel
theorem dJx4a65c_clear_da8c8_39 : decode cJx4a65c_clear_da8c8 39 = .ok (.goto (-12), 3) := by decide +kernel
theorem dJx4a65c_clear_da8c8_42 : decode cJx4a65c_clear_da8c8 42 = .ok (.return_, 1) := by decide +kernel
theorem dJ7_fill_53178_0 : decode cJ7_fill_53178 0 = .ok (.iconst 0, 1) := by decide +kernel
theorem dJ7_fill_53178_1 : decode cJ7_fill_53178 1 = .ok (.istore_n 2, 1) := by decide +kernel
theorem dJ7_fill_53178_2 : decode cJ7_fill_53178 2 = .ok (.aload_n 0, 1) := by decide +kernel
theorem dJ7_fill_53178_3 : decode cJ7_fill_53178 3 = .ok (.arraylength, 1) := by decide +kernel
theorem dJ7_fill_53178_4 : decode cJ7_fill_53178 4 = .ok (.istore_n 3, 1) := by decide +kernel
theorem dJ7_fill_53178_5 : decode cJ7_fill_53178 5 = .ok (.iload_n 2, 1) := by decide +kernel
theorem dJ7_fill_53178_6 : decode cJ7_fill_53178 6 = .ok (.iload_n 3, 1) := by decide +kernel
theorem dJ7_fill_53178_7 : decode cJ7_fill_53178 7 = .ok (.if_icmp .ge 13, 3) := by decide +kernel
theorem dJ7_fill_53178_10 : decode cJ7_fill_53178 10 = .ok (.aload_n 0, 1) := by decide +kernel
theorem dJ7_fill_53178_11 : decode cJ7_fill_53178 11 = .ok (.iload_n 2, 1) := by decide +kernel
theorem dJ7_fill_53178_12 : decode cJ7_fill_53178 12 = .ok (.iload_n 1, 1) := by decide +kernel
theorem dJ7_fill_53178_13 : decode cJ7_fill_53178 13 = .ok (.iastore, 1) := by decide +kernel
theorem dJ7_fill_53178_14 : decode cJ7_fill_53178 14 = .ok (.iinc 2 1, 3) := by decide +kernel
theorem dJ7_fill_53178_17 : decode cJ7_fill_53178 17 = .ok (.goto (-12), 3) := by decide +kernel
theorem dJ7_fill_53178_20 : decode cJ7_fill_53178 20 = .ok (.return_, 1) := by decide +kernel
theorem dJ7_copyOf_1904c_0 : decode cJ7_copyOf_1904c 0 = .ok (.aload_n 0, 1) := by decide +kernel
theorem dJ7_copyOf_1904c_1 : decode cJ7_copyOf_1904c 1 = .ok (.iload_n 1, 1) := by decide +kernel
theorem dJ7_copyOf_1904c_2 : decode cJ7_copyOf_1904c 2 = .ok (.aload_n 0, 1) := by decide +kernel
theorem dJ7_copyOf_1904c_3 : decode cJ7_copyOf_1904c 3 = .ok (.invokevirtual 86, 3) := by decide +kernel
theorem dJ7_copyOf_1904c_6 : decode cJ7_copyOf_1904c 6 = .ok (.invokestatic 300, 3) := by decide +kernel
theorem dJ7_copyOf_1904c_9 : decode cJ7_copyOf_1904c 9 = .ok (.areturn, 1) := by decide +kernel
theorem dJ7_copyOf_6403c_0 : decode cJ7_copyOf_6403c 0 = .ok (.aload_n 2, 1) := by decide +kernel
theorem dJ7_copyOf_6403c_1 : decode cJ7_copyOf_6403c 1 = .ok (.ldc 110, 2) := by decide +kernel
theorem dJ7_copyOf_6403c_3 : decode cJ7_copyOf_6403c 3 = .ok (.if_acmp .ne 10, 3) := by decide +kernel
theorem dJ7_copyOf_6403c_6 : decode cJ7_copyOf_6403c 6 = .ok (.iload_n 1, 1) := by decide +kernel
theorem dJ7_copyOf_6403c_7 : decode cJ7_copyOf_6403c 7 = .ok (.anewarray 2, 3) := by decide +kernel
theorem dJ7_copyOf_6403c_10 : decode cJ7_copyOf_6403c 10 = .ok (.goto 14, 3) := by decide +kernel
theorem dJ7_copyOf_6403c_13 : decode cJ7_copyOf_6403c 13 = .ok (.aload_n 2, 1) := by decide +kernel
theorem dJ7_copyOf_6403c_14 : decode cJ7_copyOf_6403c 14 = .ok (.invokevirtual 90, 3) := by decide +kernel
theorem dJ7_copyOf_6403c_17 : decode cJ7_copyOf_6403c 17 = .ok (.iload_n 1, 1) := by decide +kernel
theorem dJ7_copyOf_6403c_18 : decode cJ7_copyOf_6403c 18 = .ok (.invokestatic 95, 3) := by decide +kernel
theorem dJ7_copyOf_6403c_21 : decode cJ7_copyOf_6403c 21 = .ok (.checkcast 110, 3) := by decide +kernel
theorem dJ7_copyOf_6403c_24 : decode cJ7_copyOf_6403c 24 = .ok (.astore_n 3, 1) := by decide +kernel
theorem dJ7_copyOf_6403c_25 : decode cJ7_copyOf_6403c 25 = .ok (.aload_n 0, 1) := by decide +kernel
theorem dJ7_copyOf_6403c_26 : decode cJ7_copyOf_6403c 26 = .ok (.iconst 0, 1) := by decide +kernel
theorem dJ7_copyOf_6403c_27 : decode cJ7_copyOf_6403c 27 = .ok (.aload_n 3, 1) := by decide +kernel
theorem dJ7_copyOf_6403c_28 : decode cJ7_copyOf_6403c 28 = .ok (.iconst 0, 1) := by decide +kernel
theorem dJ7_copyOf_6403c_29 : decode cJ7_copyOf_6403c 29 = .ok (.aload_n 0, 1) := by decide +kernel
theorem dJ7_copyOf_6403c_30 : decode cJ7_copyOf_6403c 30 = .ok (.arraylength, 1) := by decide +kernel
theorem dJ7_copyOf_6403c_31 : decode cJ7_copyOf_6403c 31 = .ok (.iload_n 1, 1) := by decide +kernel
theorem dJ7_copyOf_6403c_32 : decode cJ7_copyOf_6403c 32 = .ok (.invokestatic 304, 3) := by decide +kernel
theorem dJ7_copyOf_6403c_35 : decode cJ7_copyOf_6403c 35 = .ok (.invokestatic 150, 3) := by decide +kernel
theorem dJ7_copyOf_6403c_38 : decode cJ7_copyOf_6403c 38 = .ok (.aload_n 3, 1) := by decide +kernel
theorem dJ7_copyOf_6403c_39 : decode cJ7_copyOf_6403c 39 = .ok (.areturn, 1) := by decide +kernel
theorem dJ15_checkIndex_7cf53_0 : decode cJ15_checkIndex_7cf53 0 = .ok (.iload_n 0, 1) := by decide +kernel
theorem dJ15_checkIndex_7cf53_1 : decode cJ15_checkIndex_7cf53 1 = .ok (.iload_n 1, 1) := by decide +kernel
theorem dJ15_checkIndex_7cf53_2 : decode cJ15_checkIndex_7cf53 2 = .ok (.aconst_null, 1) := by decide +kernel
theorem dJ15_checkIndex_7cf53_3 : decode cJ15_checkIndex_7cf53 3 = .ok (.invokestatic 105, 3) := by decide +kernel
theorem dJ15_checkIndex_7cf53_6 : decode cJ15_checkIndex_7cf53 6 = .ok (.ireturn, 1) := by decide +kernel
theorem dJ8_newLength_cabcc_0 : decode cJ8_newLength_cabcc 0 = .ok (.iload_n 0, 1) := by decide +kernel
theorem dJ8_newLength_cabcc_1 : decode cJ8_newLength_cabcc 1 = .ok (.iload_n 1, 1) := by decide +kernel
theorem dJ8_newLength_cabcc_2 : decode cJ8_newLength_cabcc 2 = .ok (.iload_n 2, 1) := by decide +kernel
theorem dJ8_newLength_cabcc_3 : decode cJ8_newLength_cabcc 3 = .ok (.invokestatic 194, 3) := by decide +kernel
theorem dJ8_newLength_cabcc_6 : decode cJ8_newLength_cabcc 6 = .ok (.iadd, 1) := by decide +kernel
theorem dJ8_newLength_cabcc_7 : decode cJ8_newLength_cabcc 7 = .ok (.istore_n 3, 1) := by decide +kernel
theorem dJ8_newLength_cabcc_8 : decode cJ8_newLength_cabcc 8 = .ok (.iconst 0, 1) := by decide +kernel
theorem dJ8_newLength_cabcc_9 : decode cJ8_newLength_cabcc 9 = .ok (.iload_n 3, 1) := by decide +kernel
theorem dJ8_newLength_cabcc_10 : decode cJ8_newLength_cabcc 10 = .ok (.if_icmp .ge 11, 3) := by decide +kernel
theorem dJ8_newLength_cabcc_13 : decode cJ8_newLength_cabcc 13 = .ok (.iload_n 3, 1) := by decide +kernel
theorem dJ8_newLength_cabcc_14 : decode cJ8_newLength_cabcc 14 = .ok (.ldc 200, 2) := by decide +kernel
theorem dJ8_newLength_cabcc_16 : decode cJ8_newLength_cabcc 16 = .ok (.if_icmp .gt 5, 3) := by decide +kernel
theorem dJ8_newLength_cabcc_19 : decode cJ8_newLength_cabcc 19 = .ok (.iload_n 3, 1) := by decide +kernel
theorem dJ8_newLength_cabcc_20 : decode cJ8_newLength_cabcc 20 = .ok (.ireturn, 1) := by decide +kernel
theorem dJ8_newLength_cabcc_21 : decode cJ8_newLength_cabcc 21 = .ok (.iload_n 0, 1) := by decide +kernel
theorem dJ8_newLength_cabcc_22 : decode cJ8_newLength_cabcc 22 = .ok (.iload_n 1, 1) := by decide +kernel
theorem dJ8_newLength_cabcc_23 : decode cJ8_newLength_cabcc 23 = .ok (.invokestatic 201, 3) := by decide +kernel
theorem dJ8_newLength_cabcc_26 : decode cJ8_newLength_cabcc 26 = .ok (.ireturn, 1) := by decide +kernel
theorem dJ8_hugeLength_7cf53_0 : decode cJ8_hugeLength_7cf53 0 = .ok (.iload_n 0, 1) := by decide +kernel
theorem dJ8_hugeLength_7cf53_1 : decode cJ8_hugeLength_7cf53 1 = .ok (.iload_n 1, 1) := by decide +kernel
theorem dJ8_hugeLength_7cf53_2 : decode cJ8_hugeLength_7cf53 2 = .ok (.iadd, 1) := by decide +kernel
theorem dJ8_hugeLength_7cf53_3 : decode cJ8_hugeLength_7cf53 3 = .ok (.istore_n 2, 1) := by decide +kernel
theorem dJ8_hugeLength_7cf53_4 : decode cJ8_hugeLength_7cf53 4 = .ok (.iload_n 2, 1) := by decide +kernel
theorem dJ8_hugeLength_7cf53_5 : decode cJ8_hugeLength_7cf53 5 = .ok (.ifCond .ge 44, 3) := by decide +kernel
theorem dJ8_hugeLength_7cf53_8 : decode cJ8_hugeLength_7cf53 8 = .ok (.new 204, 3) := by decide +kernel
theorem dJ8_hugeLength_7cf53_11 : decode cJ8_hugeLength_7cf53 11 = .ok (.dup, 1) := by decide +kernel
theorem dJ8_hugeLength_7cf53_12 : decode cJ8_hugeLength_7cf53 12 = .ok (.new 89, 3) := by decide +kernel
theorem dJ8_hugeLength_7cf53_15 : decode cJ8_hugeLength_7cf53 15 = .ok (.dup, 1) := by decide +kernel
theorem dJ8_hugeLength_7cf53_16 : decode cJ8_hugeLength_7cf53 16 = .ok (.invokespecial 91, 3) := by decide +kernel
theorem dJ8_hugeLength_7cf53_19 : decode cJ8_hugeLength_7cf53 19 = .ok (.ldc 206, 2) := by decide +kernel
theorem dJ8_hugeLength_7cf53_21 : decode cJ8_hugeLength_7cf53 21 = .ok (.invokevirtual 94, 3) := by decide +kernel
theorem dJ8_hugeLength_7cf53_24 : decode cJ8_hugeLength_7cf53 24 = .ok (.iload_n 0, 1) := by decide +kernel
theorem dJ8_hugeLength_7cf53_25 : decode cJ8_hugeLength_7cf53 25 = .ok (.invokevirtual 98, 3) := by decide +kernel
theorem dJ8_hugeLength_7cf53_28 : decode cJ8_hugeLength_7cf53 28 = .ok (.ldc 208, 2) := by decide +kernel
theorem dJ8_hugeLength_7cf53_30 : decode cJ8_hugeLength_7cf53 30 = .ok (.invokevirtual 94, 3) := by decide +kernel
theorem dJ8_hugeLength_7cf53_33 : decode cJ8_hugeLength_7cf53 33 = .ok (.iload_n 1, 1) := by decide +kernel
theorem dJ8_hugeLength_7cf53_34 : decode cJ8_hugeLength_7cf53 34 = .ok (.invokevirtual 98, 3) := by decide +kernel
theorem dJ8_hugeLength_7cf53_37 : decode cJ8_hugeLength_7cf53 37 = .ok (.ldc 210, 2) := by decide +kernel
theorem dJ8_hugeLength_7cf53_39 : decode cJ8_hugeLength_7cf53 39 = .ok (.invokevirtual 94, 3) := by decide +kernel
theorem dJ8_hugeLength_7cf53_42 : decode cJ8_hugeLength_7cf53 42 = .ok (.invokevirtual 101, 3) := by decide +kernel
theorem dJ8_hugeLength_7cf53_45 : decode cJ8_hugeLength_7cf53 45 = .ok (.invokespecial 212, 3) := by decide +kernel
theorem dJ8_hugeLength_7cf53_48 : decode cJ8_hugeLength_7cf53 48 = .ok (.athrow, 1) := by decide +kernel
theorem dJ8_hugeLength_7cf53_49 : decode cJ8_hugeLength_7cf53 49 = .ok (.iload_n 2, 1) := by decide +kernel
theorem dJ8_hugeLength_7cf53_50 : decode cJ8_hugeLength_7cf53 50 = .ok (.ldc 200, 2) := by decide +kernel
theorem dJ8_hugeLength_7cf53_52 : decode cJ8_hugeLength_7cf53 52 = .ok (.if_icmp .gt 6, 3) := by decide +kernel
theorem dJ8_hugeLength_7cf53_55 : decode cJ8_hugeLength_7cf53 55 = .ok (.ldc 200, 2) := by decide +kernel
theorem dJ8_hugeLength_7cf53_57 : decode cJ8_hugeLength_7cf53 57 = .ok (.ireturn, 1) := by decide +kernel
theorem dJ8_hugeLength_7cf53_58 : decode cJ8_hugeLength_7cf53 58 = .ok (.iload_n 2, 1) := by decide +kernel
theorem dJ8_hugeLength_7cf53_59 : decode cJ8_hugeLength_7cf53 59 = .ok (.ireturn, 1) := by decide +kernel
theorem dJ3_checkIndex_8e157_0 : decode cJ3_checkIndex_8e157 0 = .ok (.iload_n 0, 1) := by decide +kernel
theorem dJ3_checkIndex_8e157_1 : decode cJ3_checkIndex_8e157 1 = .ok (.ifCond .lt 8, 3) := by decide +kernel
theorem dJ3_checkIndex_8e157_4 : decode cJ3_checkIndex_8e157 4 = .ok (.iload_n 0, 1) := by decide +kernel
theorem dJ3_checkIndex_8e157_5 : decode cJ3_checkIndex_8e157 5 = .ok (.iload_n 1, 1) := by decide +kernel
theorem dJ3_checkIndex_8e157_6 : decode cJ3_checkIndex_8e157 6 = .ok (.if_icmp .lt 10, 3) := by decide +kernel
theorem dJ3_checkIndex_8e157_9 : decode cJ3_checkIndex_8e157 9 = .ok (.aload_n 2, 1) := by decide +kernel
theorem dJ3_checkIndex_8e157_10 : decode cJ3_checkIndex_8e157 10 = .ok (.iload_n 0, 1) := by decide +kernel
theorem dJ3_checkIndex_8e157_11 : decode cJ3_checkIndex_8e157 11 = .ok (.iload_n 1, 1) := by decide +kernel
theorem dJ3_checkIndex_8e157_12 : decode cJ3_checkIndex_8e157 12 = .ok (.invokestatic 95, 3) := by decide +kernel
theorem dJ3_checkIndex_8e157_15 : decode cJ3_checkIndex_8e157 15 = .ok (.athrow, 1) := by decide +kernel
theorem dJ3_checkIndex_8e157_16 : decode cJ3_checkIndex_8e157 16 = .ok (.iload_n 0, 1) := by decide +kernel
theorem dJ3_checkIndex_8e157_17 : decode cJ3_checkIndex_8e157 17 = .ok (.ireturn, 1) := by decide +kernel
end
section
/-! What calls answer, in short. -/
section HELP
variable {G : GC} {mi : MI} {R : Room} {Qf : List Frame → Array Value → State → State → Prop} {pc : Nat} {L : List (Nat × Value)} {st : List Value} {M M0 : Mem} {kc ks : Nat}
/-- the answer e, the memory as it was -/
def rP (e : Int32) (M : Mem) : Option Value → Mem → Prop := fun v M' => v = some (.int e) ∧ M' = M
def rPA (e : Nat) (M : Mem) : Option Value → Mem → Prop := fun v M' => v = some (.ref e) ∧ M' = M
def rPV (M : Mem) : Option Value → Mem → Prop := fun v M' => v = none ∧ M' = M
theorem kP {e : Int32} (h : SWG G mi R Qf pc L (.int e :: st) M kc ks) : ∀ v M', rP e M v M' → SWG G mi R Qf pc L (v.toList ++ st) M' kc ks := by
  rintro v M' ⟨rfl, rfl⟩; exact h
theorem kPA {e : Nat} (h : SWG G mi R Qf pc L (.ref e :: st) M kc ks) : ∀ v M', rPA e M v M' → SWG G mi R Qf pc L (v.toList ++ st) M' kc ks := by
  rintro v M' ⟨rfl, rfl⟩; exact h
theorem kPV (h : SWG G mi R Qf pc L st M kc ks) : ∀ v M', rPV M v M' → SWG G mi R Qf pc L (v.toList ++ st) M' kc ks := by
  rintro v M' ⟨rfl, rfl⟩; exact h
theorem kI {P : Int32 → Mem → Prop} (h : ∀ r M', P r M' → SWG G mi R Qf pc L (.int r :: st) M' kc ks) : ∀ v M', rI P v M' → SWG G mi R Qf pc L (v.toList ++ st) M' kc ks := by
  rintro v M' ⟨r, rfl, h'⟩; exact h r M' h'
theorem kV {P : Mem → Prop} (h : ∀ M', P M' → SWG G mi R Qf pc L st M' kc ks) : ∀ v M', rV P v M' → SWG G mi R Qf pc L (v.toList ++ st) M' kc ks := by
  rintro v M' ⟨rfl, h'⟩; exact h M' h'
theorem kA {P : Nat → Mem → Prop} (h : ∀ r M', P r M' → SWG G mi R Qf pc L (.ref r :: st) M' kc ks) : ∀ v M', rA P v M' → SWG G mi R Qf pc L (v.toList ++ st) M' kc ks := by
  rintro v M' ⟨r, rfl, h'⟩; exact h r M' h'
theorem kJ {P : Int64 → Mem → Prop} (h : ∀ r M', P r M' → SWG G mi R Qf pc L (.long r :: st) M' kc ks) : ∀ v M', rJ P v M' → SWG G mi R Qf pc L (v.toList ++ st) M' kc ks := by
  rintro v M' ⟨r, rfl, h'⟩; exact h r M' h'
theorem kF {P : UInt32 → Mem → Prop} (h : ∀ r M', P r M' → SWG G mi R Qf pc L (.float r :: st) M' kc ks) : ∀ v M', rF P v M' → SWG G mi R Qf pc L (v.toList ++ st) M' kc ks := by
  rintro v M' ⟨r, rfl, h'⟩; exact h r M' h'
theorem kD {P : UInt64 → Mem → Prop} (h : ∀ r M', P r M' → SWG G mi R Qf pc L (.double r :: st) M' kc ks) : ∀ v M', rD P v M' → SWG G mi R Qf pc L (v.toList ++ st) M' kc ks := by
  rintro v M' ⟨r, rfl, h'⟩; exact h r M' h'
def lsub (L : List (Nat × Value)) : List (Nat × Value) → Prop
  | [] => True
  | q :: r => lk L q.1 = some q.2 ∧ lsub L r
theorem lsub_all {L : List (Nat × Value)} : ∀ {L' : List (Nat × Value)}, lsub L L' → ∀ q ∈ L', lk L q.1 = some q.2
  | [], _ => fun q hq => nomatch hq
  | a :: r, h => fun q hq => by
    rcases List.mem_cons.mp hq with e | e
    · rw [e]; exact h.1
    · exact lsub_all h.2 q e
/-- the locals said anew -/
theorem r_loc' {L' : List (Nat × Value)} (k : SWG G mi R Qf pc L' st M kc ks) (hs : lsub L L') : SWG G mi R Qf pc L st M kc ks := r_loc (lsub_all hs) k
theorem r_mmax {idx : Nat} {a b : Int} (w : cwOK mi.1 iJ9_max_7cf53 idx yJ9_max_7cf53 2 ∧ Cond.static yJ9_max_7cf53 ∈ wG) (d : decode mi.2.1 pc = .ok (.invokestatic idx, 3)) (ha : inR a := by (unfold inR; omega)) (hb : inR b := by (unfold inR; omega)) (hR1 : 1 ≤ R.frames ∧ (st.map fun v => v.category).sum + 13 ≤ R.locals := by exact ⟨Nat.le_of_ble_eq_true rfl, Nat.le_of_ble_eq_true rfl⟩) (hm : kc ≤ R.cells ∧ ks ≤ R.slots := by exact ⟨Nat.zero_le _, Nat.zero_le _⟩) {c : Int} (hc : (if a < b then b else a) = c) (k : SWG G mi R Qf (pc + 3) L (.int (iz c) :: st) M kc ks) : SWG G mi R Qf pc L (.int (iz b) :: .int (iz a) :: st) M kc ks := by
  intro p l e s m args below meth c' E ls H locs hl hR hf
  have hts := E.2.2.2.2.1
  refine va_mmax E.1 E.2.1 (E.2.2.1.trans hl.1.symm) E.2.2.2.1 (hts _ w.1.1) (hts _ w.2) (hts _ w.1.2.2.1) (hts _ w.1.2.1) hR1.1 hR1.2 hm.1 hm.2 d ?_
  have e9 : (if iz a < iz b then iz b else iz a) = iz c := by
    rw [← hc]
    by_cases h : a < b
    · rw [if_pos h, if_pos ((iz_lt ha hb).mpr h)]
    · rw [if_neg h, if_neg (fun q => h ((iz_lt ha hb).mp q))]
  rw [e9]
  exact k p l e s m args below meth c' E ls H locs hl hR hf
theorem r_mmin {idx : Nat} {a b : Int} (w : cwOK mi.1 iJ9_min_7cf53 idx yJ9_min_7cf53 2 ∧ Cond.static yJ9_min_7cf53 ∈ wG) (d : decode mi.2.1 pc = .ok (.invokestatic idx, 3)) (ha : inR a := by (unfold inR; omega)) (hb : inR b := by (unfold inR; omega)) (hR1 : 1 ≤ R.frames ∧ (st.map fun v => v.category).sum + 13 ≤ R.locals := by exact ⟨Nat.le_of_ble_eq_true rfl, Nat.le_of_ble_eq_true rfl⟩) (hm : kc ≤ R.cells ∧ ks ≤ R.slots := by exact ⟨Nat.zero_le _, Nat.zero_le _⟩) {c : Int} (hc : (if b < a then b else a) = c) (k : SWG G mi R Qf (pc + 3) L (.int (iz c) :: st) M kc ks) : SWG G mi R Qf pc L (.int (iz b) :: .int (iz a) :: st) M kc ks := by
  intro p l e s m args below meth c' E ls H locs hl hR hf
  have hts := E.2.2.2.2.1
  refine va_mmin E.1 E.2.1 (E.2.2.1.trans hl.1.symm) E.2.2.2.1 (hts _ w.1.1) (hts _ w.2) (hts _ w.1.2.2.1) (hts _ w.1.2.1) hR1.1 hR1.2 hm.1 hm.2 d ?_
  have e9 : (if iz b < iz a then iz b else iz a) = iz c := by
    rw [← hc]
    by_cases h : b < a
    · rw [if_pos h, if_pos ((iz_lt hb ha).mpr h)]
    · rw [if_neg h, if_neg (fun q => h ((iz_lt hb ha).mp q))]
  rw [e9]
  exact k p l e s m args below meth c' E ls H locs hl hR hf
theorem rP_mk (e : Int32) (M : Mem) : rP e M (some (.int e)) M := ⟨rfl, rfl⟩
theorem rP_of {e e' : Int32} {M : Mem} (h : e' = e) : rP e M (some (.int e')) M := ⟨by rw [h], rfl⟩
end HELP
section SAME
/-- the cell b is the same in both memories -/
def Sm (M M' : Mem) (b : Nat) : Prop := mC M' b = mC M b ∧ (∀ f, mI M' f b = mI M f b) ∧ (∀ f, mR M' f b = mR M f b) ∧ (∀ f, mJ M' f b = mJ M f b) ∧ mA M' b = mA M b ∧ mQ M' b = mQ M b ∧ mL M' b = mL M b ∧ mD M' b = mD M b
variable {M M' M'' : Mem} {a b f : Nat}
theorem Sm.rf : Sm M M b := ⟨rfl, fun _ => rfl, fun _ => rfl, fun _ => rfl, rfl, rfl, rfl, rfl⟩
theorem Sm.tr (h : Sm M M' b) (k : Sm M' M'' b) : Sm M M'' b := ⟨k.1.trans h.1, fun f => (k.2.1 f).trans (h.2.1 f), fun f => (k.2.2.1 f).trans (h.2.2.1 f), fun f => (k.2.2.2.1 f).trans (h.2.2.2.1 f), k.2.2.2.2.1.trans h.2.2.2.2.1, k.2.2.2.2.2.1.trans h.2.2.2.2.2.1, k.2.2.2.2.2.2.1.trans h.2.2.2.2.2.2.1, k.2.2.2.2.2.2.2.trans h.2.2.2.2.2.2.2⟩
theorem Sm.n (n : Nat) : Sm M (sN M n) b := Sm.rf
theorem Sm.I {G : Nat → Int32} (h : G b = mI M f b) : Sm M (sI M f G) b := by
  refine ⟨rfl, fun g => ?_, fun _ => rfl, fun _ => rfl, rfl, rfl, rfl, rfl⟩
  by_cases e : g = f
  · rw [e, mI_sI, h]
  · rw [mI_sIn _ _ _ _ e]
theorem Sm.R {G : Nat → Option Nat} (h : G b = mR M f b) : Sm M (sR M f G) b := by
  refine ⟨rfl, fun _ => rfl, fun g => ?_, fun _ => rfl, rfl, rfl, rfl, rfl⟩
  by_cases e : g = f
  · rw [e, mR_sR, h]
  · rw [mR_sRn _ _ _ _ e]
theorem Sm.J {G : Nat → Int64} (h : G b = mJ M f b) : Sm M (sJ M f G) b := by
  refine ⟨rfl, fun _ => rfl, fun _ => rfl, fun g => ?_, rfl, rfl, rfl, rfl⟩
  by_cases e : g = f
  · rw [e, mJ_sJ, h]
  · rw [mJ_sJn _ _ _ _ e]
theorem Sm.Iu {x : Int32} (h : b ≠ a) : Sm M (sI M f (upd (mI M f) a x)) b := Sm.I (by simp [upd, h])
theorem Sm.Ru {x : Option Nat} (h : b ≠ a) : Sm M (sR M f (va_up (mR M f) a x)) b := Sm.R (up_n _ _ h)
theorem Sm.Ju {x : Int64} (h : b ≠ a) : Sm M (sJ M f (va_up (mJ M f) a x)) b := Sm.J (up_n _ _ h)
theorem Sm.A {G : Nat → Int32} (h : b ≠ a) : Sm M (sA M a G) b := ⟨rfl, fun _ => rfl, fun _ => rfl, fun _ => rfl, mA_sAn _ _ _ _ h, rfl, rfl, rfl⟩
theorem Sm.Q {G : Nat → Option Nat} (h : b ≠ a) : Sm M (sQ M a G) b := ⟨rfl, fun _ => rfl, fun _ => rfl, fun _ => rfl, rfl, mQ_sQn _ _ _ _ h, rfl, rfl⟩
theorem Sm.L {G : Nat → Int64} (h : b ≠ a) : Sm M (sL M a G) b := ⟨rfl, fun _ => rfl, fun _ => rfl, fun _ => rfl, rfl, rfl, mL_sLn _ _ _ _ h, rfl⟩
theorem Sm.D {G : Nat → UInt64} (h : b ≠ a) : Sm M (sD M a G) b := ⟨rfl, fun _ => rfl, fun _ => rfl, fun _ => rfl, rfl, rfl, rfl, mD_sDn _ _ _ _ h⟩
theorem Sm.nw {t z : Nat} (h : b ≠ mN M) : Sm M (nw M t z) b := ⟨up_n _ _ h, fun f => if_neg h, fun f => if_neg h, fun f => if_neg h, up_n _ _ h, up_n _ _ h, up_n _ _ h, up_n _ _ h⟩
theorem Sm.c {x : Option (Nat × Nat)} (h : Sm M M' b) (k : mC M b = x) : mC M' b = x := h.1.trans k
theorem Sm.i {x : Int32} (h : Sm M M' b) (k : mI M f b = x) : mI M' f b = x := (h.2.1 f).trans k
theorem Sm.r {x : Option Nat} (h : Sm M M' b) (k : mR M f b = x) : mR M' f b = x := (h.2.2.1 f).trans k
theorem Sm.j {x : Int64} (h : Sm M M' b) (k : mJ M f b = x) : mJ M' f b = x := (h.2.2.2.1 f).trans k
theorem Sm.aa (h : Sm M M' b) : mA M' b = mA M b := h.2.2.2.2.1
theorem Sm.qq (h : Sm M M' b) : mQ M' b = mQ M b := h.2.2.2.2.2.1
theorem Sm.ll (h : Sm M M' b) : mL M' b = mL M b := h.2.2.2.2.2.2.1
theorem Sm.dd (h : Sm M M' b) : mD M' b = mD M b := h.2.2.2.2.2.2.2
theorem nw_c (M : Mem) (t z : Nat) : mC (nw M t z) (mN M) = some (t, z) := up_s _ _ _
theorem nw_n (M : Mem) (t z : Nat) : mN (nw M t z) = mN M + 1 := rfl
theorem nw_i (M : Mem) (t z f : Nat) : mI (nw M t z) f (mN M) = 0 := if_pos rfl
theorem nw_r (M : Mem) (t z f : Nat) : mR (nw M t z) f (mN M) = none := if_pos rfl
theorem nw_a (M : Mem) (t z : Nat) : mA (nw M t z) (mN M) = fun _ => 0 := up_s _ _ _
theorem nw_q (M : Mem) (t z : Nat) : mQ (nw M t z) (mN M) = fun _ => none := up_s _ _ _
theorem nw_l (M : Mem) (t z : Nat) : mL (nw M t z) (mN M) = fun _ => 0 := up_s _ _ _
theorem nw_d (M : Mem) (t z : Nat) : mD (nw M t z) (mN M) = fun _ => 0 := up_s _ _ _
end SAME
end
section
/-! The JDK's methods under lists and arrays. -/
section LISTS
variable {G : GC} {M : Mem}
theorem c_checkIndexP (i n : Nat) (h : i < n) (hn : n < 2147483648) : Ht G iJ3_checkIndex_8e157 yJ3_checkIndex_8e157 2 [.int (iz i), .int (iz n), .null] M (rP (iz i) M) nX 0 0 := by
  refine ht_intro (by decide +kernel) rfl rfl rfl (Nat.le_of_ble_eq_true rfl) ?_
  refine r_iload_n dJ3_checkIndex_8e157_0 rfl ?_
  refine r_if_lt (tgt := 9) dJ3_checkIndex_8e157_1 (by decide) (kt := fun z1 => (by exfalso; first | omega | simp_all)) (kf := fun z1 => ?_)
  refine r_iload_n dJ3_checkIndex_8e157_4 rfl ?_
  refine r_iload_n dJ3_checkIndex_8e157_5 rfl ?_
  refine r_icmp_lt (tgt := 16) dJ3_checkIndex_8e157_6 (by decide) (kt := fun z6 => ?_) (kf := fun z6 => (by exfalso; first | omega | simp_all))
  refine r_iload_n dJ3_checkIndex_8e157_16 rfl ?_
  exact r_iret dJ3_checkIndex_8e157_17 (rP_mk _ _)
theorem c_checkIndex (i n : Nat) (h : i < n) (hn : n < 2147483648) : Ht G iJ15_checkIndex_7cf53 yJ15_checkIndex_7cf53 4 [.int (iz i), .int (iz n)] M (rP (iz i) M) nX 0 0 := by
  refine ht_intro (by decide +kernel) rfl rfl rfl (Nat.le_of_ble_eq_true rfl) ?_
  refine r_iload_n dJ15_checkIndex_7cf53_0 rfl ?_
  refine r_iload_n dJ15_checkIndex_7cf53_1 rfl ?_
  refine r_null dJ15_checkIndex_7cf53_2 ?_
  refine r_callS vJ15_105 dJ15_checkIndex_7cf53_3 (c_checkIndexP i n h hn) (hm := ⟨by omega, by omega⟩) (k := kP ?_) (kx := r_nox)
  exact r_iret dJ15_checkIndex_7cf53_6 (rP_mk _ _)
/-- a list l of n elements, its row e of cap places -/
def LL (G : GC) (M : Mem) (l e n cap : Nat) : Prop := mC M l = some (10, 0) ∧ mI M 642 l = iz (n : Int) ∧ mR M 641 l = some e ∧ n ≤ cap ∧ cap ≤ 40000 ∧ ((0 < cap ∧ mC M e = some (13, cap)) ∨ (cap = 0 ∧ e = G.2.2.2 ∧ mC M e = some (17, 0)))
theorem c_size {l e n cap : Nat} (h : LL G M l e n cap) : Ht G iJx4a65c_size_8abf5 yJx4a65c_size_8abf5 2 [.ref l] M (rP (iz (n : Int)) M) nX 0 0 := by
  obtain ⟨h1, h2, h3, h4, h5, h6⟩ := h
  refine ht_intro (by decide +kernel) rfl rfl rfl (Nat.le_of_ble_eq_true rfl) ?_
  refine r_aload_n dJx4a65c_size_8abf5_0 rfl ?_
  refine r_getI qJx4a65c_48 dJx4a65c_size_8abf5_1 (by assumption) (by assumption) (kk := ?_)
  exact r_iret dJx4a65c_size_8abf5_4 (rP_mk _ _)
theorem c_elementData {l e n cap i a : Nat} (h : LL G M l e n cap) (hi : i < n) (ha : mQ M e i = some a) : Ht G iJx4a65c_elementData_915e3 yJx4a65c_elementData_915e3 2 [.ref l, .int (iz (i : Int))] M (rPA a M) nX 0 0 := by
  obtain ⟨h1, h2, h3, h4, h5, h6⟩ := h
  have h7 : mC M e = some (13, cap) := by
    rcases h6 with h6 | h6
    · exact h6.2
    · omega
  refine ht_intro (by decide +kernel) rfl rfl rfl (Nat.le_of_ble_eq_true rfl) ?_
  refine r_aload_n dJx4a65c_elementData_915e3_0 rfl ?_
  refine r_getR qJx4a65c_9 dJx4a65c_elementData_915e3_1 (by assumption) (by assumption) (kk := ?_)
  refine r_iload_n dJx4a65c_elementData_915e3_4 rfl ?_
  refine r_aald dJx4a65c_elementData_915e3_5 h7 rfl ha (k := ?_)
  exact r_aret dJx4a65c_elementData_915e3_6 (⟨rfl, rfl⟩)
theorem c_get {l e n cap i a : Nat} (h : LL G M l e n cap) (hi : i < n) (ha : mQ M e i = some a) : Ht G iJx4a65c_get_915e3 yJx4a65c_get_915e3 6 [.ref l, .int (iz (i : Int))] M (rPA a M) nX 0 0 := by
  obtain ⟨h1, h2, h3, h4, h5, h6⟩ := id h
  refine ht_intro (by decide +kernel) rfl rfl rfl (Nat.le_of_ble_eq_true rfl) ?_
  refine r_iload_n dJx4a65c_get_915e3_0 rfl ?_
  refine r_aload_n dJx4a65c_get_915e3_1 rfl ?_
  refine r_getI qJx4a65c_48 dJx4a65c_get_915e3_2 (by assumption) (by assumption) (kk := ?_)
  refine r_callS vJx4a65c_118 dJx4a65c_get_915e3_5 (c_checkIndex i n hi (by omega)) (hm := ⟨by omega, by omega⟩) (k := kP ?_) (kx := r_nox)
  refine r_pop dJx4a65c_get_915e3_8 (k := ?_)
  refine r_aload_n dJx4a65c_get_915e3_9 rfl ?_
  refine r_iload_n dJx4a65c_get_915e3_10 rfl ?_
  refine r_callV vJx4a65c_123 dJx4a65c_get_915e3_11 (by assumption) (c_elementData h hi ha) (hm := ⟨by omega, by omega⟩) (k := kPA ?_) (kx := r_nox)
  exact r_aret dJx4a65c_get_915e3_14 (⟨rfl, rfl⟩)
theorem c_newLength (a b c : Nat) (h1 : 0 < a) (h3 : 0 < b) (h4 : c ≤ a) (h2 : a ≤ 40000) (h5 : b ≤ 40000) : Ht G iJ8_newLength_cabcc yJ8_newLength_cabcc 4 [.int (iz a), .int (iz b), .int (iz c)] M (rP (iz ((a + max b c : Nat) : Int)) M) nX 0 0 := by
  have hr : ∀ x : Nat, x ≤ 100000 → inR (x : Int) := fun x hx => by constructor <;> omega
  have hm : (if (b : Int) < c then (c : Int) else b) = ((max b c : Nat) : Int) := by split <;> omega
  have hmx : max b c ≤ 40000 := by omega
  refine ht_intro (by decide +kernel) rfl rfl rfl (Nat.le_of_ble_eq_true rfl) ?_
  refine r_iload_n dJ8_newLength_cabcc_0 rfl ?_
  refine r_iload_n dJ8_newLength_cabcc_1 rfl ?_
  refine r_iload_n dJ8_newLength_cabcc_2 rfl ?_
  refine r_mmax vJ8_194 dJ8_newLength_cabcc_3 (hc := hm) (k := ?_)
  refine r_iadd dJ8_newLength_cabcc_6 ?_
  refine r_istore_n dJ8_newLength_cabcc_7 (k := ?_)
  refine r_iconst dJ8_newLength_cabcc_8 ?_
  refine r_iload_n dJ8_newLength_cabcc_9 rfl ?_
  refine r_icmp_ge (tgt := 21) dJ8_newLength_cabcc_10 (by decide) (kt := fun z10 => (by exfalso; first | omega | simp_all)) (kf := fun z10 => ?_)
  refine r_iload_n dJ8_newLength_cabcc_13 rfl ?_
  refine r_ldc (n := 2147483639) kJ8_200 dJ8_newLength_cabcc_14 (k := ?_)
  refine r_icmp_gt (tgt := 21) dJ8_newLength_cabcc_16 (by decide) (kt := fun z16 => (by exfalso; first | omega | simp_all)) (kf := fun z16 => ?_)
  refine r_iload_n dJ8_newLength_cabcc_19 rfl ?_
  exact r_iret dJ8_newLength_cabcc_20 (rP_of (by congr 1))
/-- null or known objects -/
def Obs (M : Mem) (e n : Nat) : Prop := ∀ i, i < n → ∀ y, mQ M e i = some y → ∃ t, t < 11 ∧ mC M y = some (t, 0)
theorem c_copyOf3 {e cap nc mir : Nat} (hM : va_Mi "[Ljava/lang/Object;" mir G.1) (he : mC M e = some (13, cap)) (h1 : cap ≤ nc) (h2 : nc ≤ 90000) (ho : Obs M e cap) : Ht G iJ7_copyOf_6403c yJ7_copyOf_6403c 4 [.ref e, .int (iz (nc : Int)), .ref mir] M (rA fun r M' => r = mN M ∧ M' = sQ (nw M 13 nc) (mN M) (va_cpy (mQ M e) (fun _ => none) 0 0 cap)) nX 1 nc := by
  have hr : ∀ x : Nat, x ≤ 100000 → inR (x : Int) := fun x hx => by constructor <;> omega
  have hm : (if (nc : Int) < cap then (nc : Int) else cap) = (cap : Int) := by split <;> omega
  refine ht_intro (by decide +kernel) rfl rfl rfl (Nat.le_of_ble_eq_true rfl) ?_
  refine r_aload_n dJ7_copyOf_6403c_0 rfl ?_
  refine r_ldcM nJ7_110 hM dJ7_copyOf_6403c_1 ?_
  refine r_acmp_ne (tgt := 13) dJ7_copyOf_6403c_3 (by decide) (kt := fun z3 => (by exfalso; first | omega | simp_all)) (kf := fun z3 => ?_)
  refine r_iload_n dJ7_copyOf_6403c_6 rfl ?_
  refine r_newq nJ7_2 dJ7_copyOf_6403c_7 rfl (hm := ⟨by simp [rmd], by simp [rmd]⟩) (k := fun hlt hgb => ?_)
  refine r_goto (tgt := 24) dJ7_copyOf_6403c_10 (by decide) ?_
  have hne : e ≠ mN M := Nat.ne_of_lt (hlt e _ _ he)
  have he' : mC (nw M 13 nc) e = some (13, cap) := (Sm.nw hne).c he
  refine r_astore_n dJ7_copyOf_6403c_24 (k := ?_)
  refine r_aload_n dJ7_copyOf_6403c_25 rfl ?_
  refine r_iconst dJ7_copyOf_6403c_26 ?_
  refine r_aload_n dJ7_copyOf_6403c_27 rfl ?_
  refine r_iconst dJ7_copyOf_6403c_28 ?_
  refine r_aload_n dJ7_copyOf_6403c_29 rfl ?_
  refine r_alen dJ7_copyOf_6403c_30 he' (k := ?_)
  refine r_iload_n dJ7_copyOf_6403c_31 rfl ?_
  refine r_mmin vJ7_304 dJ7_copyOf_6403c_32 (hc := hm) (hm := ⟨by simp [rmd], by simp [rmd]⟩) (k := ?_)
  refine r_copy vJ7_150 he' (nw_c M 13 nc) hne.symm (Nat.le_refl _) h1 (by omega) (fun i hi y hy => ?_) dJ7_copyOf_6403c_35 (k := ?_)
  · rw [(Sm.nw hne).qq] at hy
    obtain ⟨t, ht, hc⟩ := ho i hi y hy
    exact ⟨t, ht, (Sm.nw (Nat.ne_of_lt (hlt y _ _ hc))).c hc⟩
  refine r_aload_n dJ7_copyOf_6403c_38 rfl ?_
  exact r_aret dJ7_copyOf_6403c_39 (⟨_, rfl, rfl, by rw [(Sm.nw hne).qq, nw_q]⟩)
theorem c_copyOf {e cap nc : Nat} (he : mC M e = some (13, cap)) (h1 : cap ≤ nc) (h2 : nc ≤ 90000) (ho : Obs M e cap) : Ht G iJ7_copyOf_1904c yJ7_copyOf_1904c 6 [.ref e, .int (iz (nc : Int))] M (rA fun r M' => r = mN M ∧ M' = sQ (nw M 13 nc) (mN M) (va_cpy (mQ M e) (fun _ => none) 0 0 cap)) nX 1 nc := by
  refine ht_intro (by decide +kernel) rfl rfl rfl (Nat.le_of_ble_eq_true rfl) ?_
  refine r_aload_n dJ7_copyOf_1904c_0 rfl ?_
  refine r_iload_n dJ7_copyOf_1904c_1 rfl ?_
  refine r_aload_n dJ7_copyOf_1904c_2 rfl ?_
  refine r_getC vJ7_86 (by assumption) dJ7_copyOf_1904c_3 (k := fun mir hmir => ?_)
  refine r_callS vJ7_300 dJ7_copyOf_1904c_6 (c_copyOf3 hmir he h1 h2 ho) (hm := ⟨by simp [rmd], by simp [rmd]⟩) (k := kA fun r M' hr => ?_) (kx := r_nox)
  exact r_aret dJ7_copyOf_1904c_9 (⟨r, rfl, hr⟩)
theorem up_lt {α : Type} (i j : Nat) (v w : α) : (if j = i then v else if j < i then v else w) = if j < i + 1 then v else w := by
  by_cases h : j = i
  · rw [if_pos h, if_pos (by omega)]
  · rw [if_neg h]
    by_cases h2 : j < i
    · rw [if_pos h2, if_pos (by omega)]
    · rw [if_neg h2, if_neg (by omega)]
theorem c_fill {a n : Nat} {v : Int32} (ha : mC M a = some (11, n)) (hn : n ≤ 1000000) : Ht G iJ7_fill_53178 yJ7_fill_53178 2 [.ref a, .int v] M (rPV (sA M a fun j => if j < n then v else mA M a j)) nX 0 0 := by
  refine ht_intro (by decide +kernel) rfl rfl rfl (Nat.le_of_ble_eq_true rfl) ?_
  have loop : ∀ k i : Nat, i + k = n → ∀ (M' : Mem) (K : Nat → Int32), M' = sA M a K → (∀ j, K j = if j < i then v else mA M a j) → SWG G iJ7_fill_53178 (rmd 2 0 0) (QF G (rPV (sA M a fun j => if j < n then v else mA M a j)) nX 0 0) 5 [(2, .int (iz (i : Int))), (3, .int (iz (n : Int))), (0, .ref a), (1, .int v)] [] M' 0 0 := by
    intro k
    induction k with
    | zero =>
      intro i hi M' K hM hK
      subst hM
      have e : (fun j => if j < n then v else mA M a j) = K := funext fun j => by rw [hK, show i = n by omega]
      refine r_iload_n dJ7_fill_53178_5 rfl ?_
      refine r_iload_n dJ7_fill_53178_6 rfl ?_
      refine r_icmp_ge (tgt := 20) dJ7_fill_53178_7 (by decide) (kt := fun z7 => ?_) (kf := fun z7 => (by exfalso; first | omega | simp_all))
      exact r_vret dJ7_fill_53178_20 (⟨rfl, by rw [e]⟩)
    | succ k ih =>
      intro i hi M' K hM hK
      subst hM
      refine r_iload_n dJ7_fill_53178_5 rfl ?_
      refine r_iload_n dJ7_fill_53178_6 rfl ?_
      refine r_icmp_ge (tgt := 20) dJ7_fill_53178_7 (by decide) (kt := fun z7 => (by exfalso; first | omega | simp_all)) (kf := fun z7 => ?_)
      refine r_aload_n dJ7_fill_53178_10 rfl ?_
      refine r_iload_n dJ7_fill_53178_11 rfl ?_
      refine r_iload_n dJ7_fill_53178_12 rfl ?_
      refine r_iast dJ7_fill_53178_13 ha rfl (k := ?_)
      refine r_iinc dJ7_fill_53178_14 rfl (k := ?_)
      refine r_goto (tgt := 5) dJ7_fill_53178_17 (by decide) ?_
      exact r_loc' (ih (i + 1) (by omega) _ (upd K i v) (by rw [mA_sA, sA_sA]) (fun j => by simp only [upd, hK, up_lt])) ⟨rfl, rfl, rfl, rfl, trivial⟩
  refine r_iconst dJ7_fill_53178_0 ?_
  refine r_istore_n dJ7_fill_53178_1 (k := ?_)
  refine r_aload_n dJ7_fill_53178_2 rfl ?_
  refine r_alen dJ7_fill_53178_3 (by assumption) (k := ?_)
  refine r_istore_n dJ7_fill_53178_4 (k := ?_)
  exact r_loc' (loop n 0 (by omega) _ _ (sA_id M a).symm (fun j => by simp)) ⟨rfl, rfl, rfl, rfl, trivial⟩
/-- what comes of a list that is emptied -/
theorem c_clear {l e n cap : Nat} (h : LL G M l e n cap) : Ht G iJx4a65c_clear_da8c8 yJx4a65c_clear_da8c8 2 [.ref l] M (rV fun M' => LL G M' l e 0 cap ∧ mN M' = mN M ∧ (∀ b, b ≠ l → b ≠ e → Sm M M' b) ∧ (cap = 0 → Sm M M' e)) nX 0 0 := by
  obtain ⟨h1, h2, h3, h4, h5, h6⟩ := h
  refine ht_intro (by decide +kernel) rfl rfl rfl (Nat.le_of_ble_eq_true rfl) ?_
  obtain ⟨u, hu⟩ : ∃ u : Int, mI M 640 l = iz u := ⟨_, iz_of _⟩
  have loop : ∀ k i : Nat, i + k = n → ∀ (M' : Mem), mC M' = mC M → mN M' = mN M → LL G M' l e 0 cap → (∀ b, b ≠ l → b ≠ e → Sm M M' b) → (cap = 0 → Sm M M' e) → SWG G iJx4a65c_clear_da8c8 (rmd 2 0 0) (QF G (rV fun M' => LL G M' l e 0 cap ∧ mN M' = mN M ∧ (∀ b, b ≠ l → b ≠ e → Sm M M' b) ∧ (cap = 0 → Sm M M' e)) nX 0 0) 27 [(3, .int (iz (i : Int))), (2, .int (iz (n : Int))), (1, .ref e)] [] M' 0 0 := by
    intro k
    induction k with
    | zero =>
      intro i hi M' hc hn hL hf hg
      refine r_iload_n dJx4a65c_clear_da8c8_27 rfl ?_
      refine r_iload_n dJx4a65c_clear_da8c8_28 rfl ?_
      refine r_icmp_ge (tgt := 42) dJx4a65c_clear_da8c8_29 (by decide) (kt := fun z29 => ?_) (kf := fun z29 => (by exfalso; first | omega | simp_all))
      exact r_vret dJx4a65c_clear_da8c8_42 (⟨rfl, hL, hn, hf, hg⟩)
    | succ k ih =>
      intro i hi M' hc hn hL hf hg
      have h7 : mC M' e = some (13, cap) := by
        rw [hc]
        rcases h6 with h6 | h6
        · exact h6.2
        · omega
      have hle : l ≠ e := fun q => by rw [q, ← hc, h7] at h1; cases h1
      obtain ⟨g1, g2, g3, g4, g5, g6⟩ := hL
      refine r_iload_n dJx4a65c_clear_da8c8_27 rfl ?_
      refine r_iload_n dJx4a65c_clear_da8c8_28 rfl ?_
      refine r_icmp_ge (tgt := 42) dJx4a65c_clear_da8c8_29 (by decide) (kt := fun z29 => (by exfalso; first | omega | simp_all)) (kf := fun z29 => ?_)
      refine r_aload_n dJx4a65c_clear_da8c8_32 rfl ?_
      refine r_iload_n dJx4a65c_clear_da8c8_33 rfl ?_
      refine r_null dJx4a65c_clear_da8c8_34 ?_
      refine r_aastN dJx4a65c_clear_da8c8_35 h7 rfl (k := ?_)
      refine r_iinc dJx4a65c_clear_da8c8_36 rfl (k := ?_)
      refine r_goto (tgt := 27) dJx4a65c_clear_da8c8_39 (by decide) ?_
      exact r_loc' (ih (i + 1) (by omega) _ hc hn ⟨g1, g2, g3, g4, g5, g6⟩ (fun b hb1 hb2 => (hf b hb1 hb2).tr (Sm.Q hb2)) (fun hcap => by omega)) ⟨rfl, rfl, rfl, trivial⟩
  refine r_aload_n dJx4a65c_clear_da8c8_0 rfl ?_
  refine r_dup dJx4a65c_clear_da8c8_1 (k := ?_)
  refine r_getI qJx4a65c_63 dJx4a65c_clear_da8c8_2 h1 hu (kk := ?_)
  refine r_iconst dJx4a65c_clear_da8c8_5 ?_
  refine r_iadd dJx4a65c_clear_da8c8_6 ?_
  refine r_putI qJx4a65c_63 dJx4a65c_clear_da8c8_7 (by assumption) (kk := ?_)
  refine r_aload_n dJx4a65c_clear_da8c8_10 rfl ?_
  refine r_getR qJx4a65c_9 dJx4a65c_clear_da8c8_11 (by assumption) (by assumption) (kk := ?_)
  refine r_astore_n dJx4a65c_clear_da8c8_14 (k := ?_)
  refine r_aload_n dJx4a65c_clear_da8c8_15 rfl ?_
  refine r_getI qJx4a65c_48 dJx4a65c_clear_da8c8_16 (by assumption) (by assumption) (kk := ?_)
  refine r_istore_n dJx4a65c_clear_da8c8_19 (k := ?_)
  refine r_aload_n dJx4a65c_clear_da8c8_20 rfl ?_
  refine r_iconst dJx4a65c_clear_da8c8_21 ?_
  refine r_dup_x1 dJx4a65c_clear_da8c8_22 (k := ?_)
  refine r_putI qJx4a65c_48 dJx4a65c_clear_da8c8_23 (by assumption) (kk := ?_)
  refine r_istore_n dJx4a65c_clear_da8c8_26 (k := ?_)
  refine r_loc' (loop n 0 (by omega) _ rfl rfl ?_ ?_ ?_) ⟨rfl, rfl, rfl, trivial⟩
  · exact ⟨h1, by rw [mI_sI]; simp [upd], h3, by omega, h5, h6⟩
  · exact fun b hb1 hb2 => (Sm.Iu hb1).tr (Sm.Iu hb1)
  · intro hcap
    have hle : e ≠ l := fun q => by
      rcases h6 with ⟨-, h6⟩ | ⟨-, -, h6⟩ <;> rw [q, h1] at h6 <;> cases h6
    exact (Sm.Iu hle).tr (Sm.Iu hle)
end LISTS
end
section
/-! ArrayList.add. -/
section ADDS
variable {G : GC} {M : Mem}
/-- what comes of a list that is added to -/
def AddP (G : GC) (M : Mem) (l e n cap a : Nat) (M' : Mem) : Prop := ∃ e' cap', LL G M' l e' (n + 1) cap' ∧ mC M' e' = some (13, cap') ∧ mQ M' e' n = some a ∧ (∀ j, j < n → mQ M' e' j = mQ M e j) ∧ (∀ b, b < mN M → b ≠ l → b ≠ e → Sm M M' b) ∧ (∀ b, b < mN M → mC M' b = mC M b) ∧ mN M ≤ mN M' ∧ ((e' = e ∧ cap' = cap ∧ n < cap ∧ mN M' = mN M) ∨ (e' = mN M ∧ n = cap ∧ cap' ≤ cap + cap / 2 + 10 ∧ mN M' = mN M + 1 ∧ Sm M M' e))
def GrowP (M : Mem) (l e n : Nat) (r : Nat) (M' : Mem) : Prop := r = mN M ∧ ∃ nc, mC M' (mN M) = some (13, nc) ∧ mR M' 641 l = some (mN M) ∧ mC M' l = mC M l ∧ mI M' 642 l = mI M 642 l ∧ (∀ j, j < n → mQ M' (mN M) j = mQ M e j) ∧ (∀ b, b < mN M → b ≠ l → Sm M M' b) ∧ mN M' = mN M + 1 ∧ n < nc ∧ nc ≤ n + n / 2 + 10
theorem growP_of {l e n nc : Nat} {Q : Nat → Option Nat} {M1 : Mem} (hl : l < mN M) (hM : M1 = sQ (nw M 13 nc) (mN M) Q) (hQ : ∀ j, j < n → Q j = mQ M e j) (h1 : n < nc) (h2 : nc ≤ n + n / 2 + 10) : GrowP M l e n (mN M) (sR M1 641 (va_up (mR M1 641) l (some (mN M)))) := by
  have s1 : ∀ b, b < mN M → Sm M M1 b := fun b hb => by rw [hM]; exact (Sm.nw (Nat.ne_of_lt hb)).tr (Sm.Q (Nat.ne_of_lt hb))
  have c1 : mC M1 (mN M) = some (13, nc) := by rw [hM]; exact nw_c M 13 nc
  have q1 : mQ M1 (mN M) = Q := by rw [hM, mQ_sQ]
  have n1 : mN M1 = mN M + 1 := by rw [hM]; rfl
  refine ⟨rfl, nc, c1, by rw [mR_sR, up_s], (s1 l hl).1, (s1 l hl).2.1 642, fun j hj => ?_, fun b hb hbl => (s1 b hb).tr (Sm.Ru hbl), n1, h1, h2⟩
  show mQ M1 (mN M) j = _
  rw [q1]; exact hQ j hj
theorem max_1n {n : Nat} (h : 1 ≤ n) (h2 : n ≤ 40000) : n + max 1 (n / 2) ≤ n + n / 2 + 10 ∧ n < n + max 1 (n / 2) ∧ n + max 1 (n / 2) ≤ 90000 := by
  have h3 : max 1 (n / 2) ≤ n / 2 + 1 := Nat.max_le.mpr ⟨by omega, by omega⟩
  have h4 : 1 ≤ max 1 (n / 2) := Nat.le_max_left _ _
  omega
theorem c_grow1 {l e n : Nat} (h : LL G M l e n n) (ho : Obs M e n) : Ht G iJx4a65c_grow_92f84 yJx4a65c_grow_92f84 8 [.ref l, .int (iz ((n + 1 : Nat) : Int))] M (rA (GrowP M l e n)) nX 1 (n + n / 2 + 10) := by
  obtain ⟨h1, h2, h3, h4, h5, h6⟩ := id h
  refine ht_intro (by decide +kernel) rfl rfl rfl (Nat.le_of_ble_eq_true rfl) ?_
  by_cases hn : n = 0
  · subst hn
    have h7 : e = G.2.2.2 ∧ mC M e = some (17, 0) := by
      rcases h6 with h6 | ⟨-, h6⟩
      · omega
      · exact h6
    obtain ⟨he, h8⟩ := h7
    subst he
    refine r_aload_n dJx4a65c_grow_92f84_0 rfl ?_
    refine r_getR qJx4a65c_9 dJx4a65c_grow_92f84_1 (by assumption) (by assumption) (kk := ?_)
    refine r_alen dJx4a65c_grow_92f84_4 h8 (k := ?_)
    refine r_istore_n dJx4a65c_grow_92f84_5 (k := ?_)
    refine r_iload_n dJx4a65c_grow_92f84_6 rfl ?_
    refine r_if_gt (tgt := 20) dJx4a65c_grow_92f84_7 (by decide) (kt := fun z7 => (by exfalso; first | omega | simp_all)) (kf := fun z7 => ?_)
    refine r_aload_n dJx4a65c_grow_92f84_10 rfl ?_
    refine r_getR qJx4a65c_9 dJx4a65c_grow_92f84_11 (by assumption) (by assumption) (kk := ?_)
    refine r_gete qJx4a65c_39 dJx4a65c_grow_92f84_14 ?_
    refine r_acmp_eq (tgt := 45) dJx4a65c_grow_92f84_17 (by decide) (kt := fun z17 => ?_) (kf := fun z17 => (by exfalso; first | omega | simp_all))
    refine r_aload_n dJx4a65c_grow_92f84_45 rfl ?_
    refine r_bipush dJx4a65c_grow_92f84_46 (k := ?_)
    refine r_iload_n dJx4a65c_grow_92f84_48 rfl ?_
    refine r_mmax vJx4a65c_79 dJx4a65c_grow_92f84_49 (hc := (rfl : _ = (10 : Int))) (hm := ⟨by simp [rmd], by simp [rmd]⟩) (k := ?_)
    refine r_newq nJx4a65c_7 dJx4a65c_grow_92f84_52 (N := 10) rfl (hm := ⟨by simp [rmd], by simp [rmd]⟩) (k := fun hlt hgb => ?_)
    refine r_dup_x1 dJx4a65c_grow_92f84_55 (k := ?_)
    refine r_putR qJx4a65c_9 dJx4a65c_grow_92f84_56 ((Sm.nw (Nat.ne_of_lt (hlt l _ _ h1))).c h1) (kk := ?_)
    exact r_aret dJx4a65c_grow_92f84_59 (⟨_, rfl, growP_of (nc := 10) (hlt l _ _ h1) (sQ_id _ _).symm (fun j hj => by omega) (by omega) (by omega)⟩)
  · have h7 : mC M e = some (13, n) := by
      rcases h6 with h6 | ⟨h6, -⟩
      · exact h6.2
      · omega
    have hsh : iz (n : Int) >>> (iz 1 &&& 31) = iz ((n / 2 : Nat) : Int) := by
      rw [← iz_nI, ← iz_nI]
      have k := pk_shrN (n := n) (by omega) (iz 1 &&& 31) 1 (by decide +kernel)
      rw [Nat.pow_one] at k
      exact k
    obtain ⟨x1, x2, x3⟩ := max_1n (n := n) (by omega) h5
    generalize hmm : n + max 1 (n / 2) = nc at x1 x2 x3
    refine r_lt (fun hlt => ?_)
    have hl9 := (hlt l _ _ h1).1
    refine r_aload_n dJx4a65c_grow_92f84_0 rfl ?_
    refine r_getR qJx4a65c_9 dJx4a65c_grow_92f84_1 (by assumption) (by assumption) (kk := ?_)
    refine r_alen dJx4a65c_grow_92f84_4 h7 (k := ?_)
    refine r_istore_n dJx4a65c_grow_92f84_5 (k := ?_)
    refine r_iload_n dJx4a65c_grow_92f84_6 rfl ?_
    refine r_if_gt (tgt := 20) dJx4a65c_grow_92f84_7 (by decide) (kt := fun z7 => ?_) (kf := fun z7 => (by exfalso; first | omega | simp_all))
    refine r_iload_n dJx4a65c_grow_92f84_20 rfl ?_
    refine r_iload_n dJx4a65c_grow_92f84_21 rfl ?_
    refine r_iload_n dJx4a65c_grow_92f84_22 rfl ?_
    refine r_isub dJx4a65c_grow_92f84_23 ?_
    refine r_iload_n dJx4a65c_grow_92f84_24 rfl ?_
    refine r_iconst dJx4a65c_grow_92f84_25 ?_
    refine r_ishr dJx4a65c_grow_92f84_26 hsh ?_
    rw [show ((n + 1 : Nat) : Int) - (n : Int) = ((1 : Nat) : Int) by omega]
    refine r_callS vJx4a65c_73 dJx4a65c_grow_92f84_27 (c_newLength n 1 (n / 2) (by omega) (by omega) (by omega) h5 (by omega)) (hm := ⟨by omega, by omega⟩) (k := kP ?_) (kx := r_nox)
    rw [hmm]
    refine r_istore_n dJx4a65c_grow_92f84_30 (k := ?_)
    refine r_aload_n dJx4a65c_grow_92f84_31 rfl ?_
    refine r_aload_n dJx4a65c_grow_92f84_32 rfl ?_
    refine r_getR qJx4a65c_9 dJx4a65c_grow_92f84_33 (by assumption) (by assumption) (kk := ?_)
    refine r_iload_n dJx4a65c_grow_92f84_36 rfl ?_
    refine r_callS vJx4a65c_66 dJx4a65c_grow_92f84_37 (c_copyOf (nc := nc) h7 (by omega) (by omega) ho) (hm := ⟨by simp [rmd], by simp [rmd]; omega⟩) (k := kA fun r M' hr => ?_) (kx := r_nox)
    obtain ⟨rfl, rfl⟩ := hr
    refine r_dup_x1 dJx4a65c_grow_92f84_40 (k := ?_)
    refine r_putR qJx4a65c_9 dJx4a65c_grow_92f84_41 ((Sm.Q (Nat.ne_of_lt hl9)).c ((Sm.nw (Nat.ne_of_lt hl9)).c h1)) (kk := ?_)
    exact r_aret dJx4a65c_grow_92f84_44 (⟨_, rfl, growP_of (nc := nc) hl9 rfl (fun j hj => (pk_cpy_in (sp := 0) (dp := 0) (n := n) (Nat.zero_le j) (by omega)).trans (by simp)) x2 x1⟩)
theorem c_grow0 {l e n : Nat} (h : LL G M l e n n) (ho : Obs M e n) : Ht G iJx4a65c_grow_d5877 yJx4a65c_grow_d5877 10 [.ref l] M (rA (GrowP M l e n)) nX 1 (n + n / 2 + 10) := by
  obtain ⟨h1, h2, h3, h4, h5, h6⟩ := id h
  refine ht_intro (by decide +kernel) rfl rfl rfl (Nat.le_of_ble_eq_true rfl) ?_
  refine r_aload_n dJx4a65c_grow_d5877_0 rfl ?_
  refine r_aload_n dJx4a65c_grow_d5877_1 rfl ?_
  refine r_getI qJx4a65c_48 dJx4a65c_grow_d5877_2 (by assumption) (by assumption) (kk := ?_)
  refine r_iconst dJx4a65c_grow_d5877_5 ?_
  refine r_iadd dJx4a65c_grow_d5877_6 ?_
  refine r_callV vJx4a65c_69 dJx4a65c_grow_d5877_7 (by assumption) (c_grow1 h ho) (hm := ⟨by simp [rmd], by simp [rmd]⟩) (k := kA fun r M' hr => ?_) (kx := r_nox)
  exact r_aret dJx4a65c_grow_d5877_10 (⟨_, rfl, hr⟩)
theorem addP_of {M1 : Mem} {l e n nc a : Nat} (p1 : mC M1 (mN M) = some (13, nc)) (p2 : mR M1 641 l = some (mN M)) (hc2 : mC M1 l = some (10, 0)) (p5 : ∀ j, j < n → mQ M1 (mN M) j = mQ M e j) (p6 : ∀ b, b < mN M → b ≠ l → Sm M M1 b) (p7 : mN M1 = mN M + 1) (q1 : n < nc) (hnc : nc ≤ 40000) (hee : e < mN M) (hle : l ≠ e) (q2 : nc ≤ n + n / 2 + 10) (hl : l < mN M := by omega) (h1 : mC M l = some (10, 0) := by assumption) :
    AddP G M l e n n a (sI (sQ M1 (mN M) (va_up (mQ M1 (mN M)) n (some a))) (64 * 10 + 2) (upd (mI (sQ M1 (mN M) (va_up (mQ M1 (mN M)) n (some a))) (64 * 10 + 2)) l (iz ((n : Int) + 1)))) := by
  have s2 : ∀ b, b ≠ l → b ≠ mN M → Sm M1 (sI (sQ M1 (mN M) (va_up (mQ M1 (mN M)) n (some a))) (64 * 10 + 2) (upd (mI (sQ M1 (mN M) (va_up (mQ M1 (mN M)) n (some a))) (64 * 10 + 2)) l (iz ((n : Int) + 1)))) b := fun b hb hb2 => (Sm.Q hb2).tr (Sm.Iu hb)
  have eq : mQ (sI (sQ M1 (mN M) (va_up (mQ M1 (mN M)) n (some a))) (64 * 10 + 2) (upd (mI (sQ M1 (mN M) (va_up (mQ M1 (mN M)) n (some a))) (64 * 10 + 2)) l (iz ((n : Int) + 1)))) (mN M) = va_up (mQ M1 (mN M)) n (some a) := mQ_sQ _ _ _
  have ei : mI (sI (sQ M1 (mN M) (va_up (mQ M1 (mN M)) n (some a))) (64 * 10 + 2) (upd (mI (sQ M1 (mN M) (va_up (mQ M1 (mN M)) n (some a))) (64 * 10 + 2)) l (iz ((n : Int) + 1)))) 642 l = iz ((n : Int) + 1) := by
    show mI (sI _ 642 _) 642 l = _
    rw [mI_sI]; simp [upd]
  have ec : mC (sI (sQ M1 (mN M) (va_up (mQ M1 (mN M)) n (some a))) (64 * 10 + 2) (upd (mI (sQ M1 (mN M) (va_up (mQ M1 (mN M)) n (some a))) (64 * 10 + 2)) l (iz ((n : Int) + 1)))) = mC M1 := rfl
  have er : mR (sI (sQ M1 (mN M) (va_up (mQ M1 (mN M)) n (some a))) (64 * 10 + 2) (upd (mI (sQ M1 (mN M) (va_up (mQ M1 (mN M)) n (some a))) (64 * 10 + 2)) l (iz ((n : Int) + 1)))) = mR M1 := rfl
  have en : mN (sI (sQ M1 (mN M) (va_up (mQ M1 (mN M)) n (some a))) (64 * 10 + 2) (upd (mI (sQ M1 (mN M) (va_up (mQ M1 (mN M)) n (some a))) (64 * 10 + 2)) l (iz ((n : Int) + 1)))) = mN M1 := rfl
  generalize sI (sQ M1 (mN M) (va_up (mQ M1 (mN M)) n (some a))) (64 * 10 + 2) (upd (mI (sQ M1 (mN M) (va_up (mQ M1 (mN M)) n (some a))) (64 * 10 + 2)) l (iz ((n : Int) + 1))) = M2 at s2 eq ei ec er en ⊢
  have hc9 : mC M2 (mN M) = some (13, nc) := by rw [ec]; exact p1
  refine ⟨mN M, nc, ⟨by rw [ec]; exact hc2, ei, by rw [er]; exact p2, q1, hnc, Or.inl ⟨by omega, hc9⟩⟩, hc9, by rw [eq, up_s], fun j hj => by rw [eq, up_n _ _ (by omega)]; exact p5 j hj, fun b hb hb1 hb2 => (p6 b hb hb1).tr (s2 b hb1 (Nat.ne_of_lt hb)), fun b hb => ?_, by omega, Or.inr ⟨rfl, rfl, q2, by omega, (p6 e hee hle.symm).tr (s2 e hle.symm (Nat.ne_of_lt hee))⟩⟩
  rw [ec]
  by_cases hbl : b = l
  · rw [hbl, hc2, h1]
  · exact (p6 b hb hbl).1
theorem c_add3 {l e n cap a t : Nat} (h : LL G M l e n cap) (ho : n = cap → Obs M e n) (h20 : cap ≤ 20000) (ha : mC M a = some (t, 0)) (ht : t < 11) (hal : a ≠ l) : Ht G iJx4a65c_add_72be8 yJx4a65c_add_72be8 12 [.ref l, .ref a, .ref e, .int (iz (n : Int))] M (rV (AddP G M l e n cap a)) nX (if n < cap then 0 else 1) (if n < cap then 0 else n + n / 2 + 10) := by
  obtain ⟨h1, h2, h3, h4, h5, h6⟩ := id h
  have hsum : ((n + 1 : Nat) : Int) = (n : Int) + 1 := rfl
  refine ht_intro (by decide +kernel) rfl rfl rfl (Nat.le_of_ble_eq_true rfl) ?_
  by_cases hn : n < cap
  · rw [if_pos hn, if_pos hn]
    have h7 : mC M e = some (13, cap) := by
      rcases h6 with h6 | h6
      · exact h6.2
      · omega
    have hle : l ≠ e := fun q => by rw [q, h7] at h1; cases h1
    refine r_iload_n dJx4a65c_add_72be8_0 rfl ?_
    refine r_aload_n dJx4a65c_add_72be8_1 rfl ?_
    refine r_alen dJx4a65c_add_72be8_2 h7 (k := ?_)
    refine r_icmp_ne (tgt := 11) dJx4a65c_add_72be8_3 (by decide) (kt := fun z3 => ?_) (kf := fun z3 => (by exfalso; first | omega | simp_all))
    refine r_aload_n dJx4a65c_add_72be8_11 rfl ?_
    refine r_iload_n dJx4a65c_add_72be8_12 rfl ?_
    refine r_aload_n dJx4a65c_add_72be8_13 rfl ?_
    refine r_aast dJx4a65c_add_72be8_14 h7 ha rfl ht (k := ?_)
    refine r_aload_n dJx4a65c_add_72be8_15 rfl ?_
    refine r_iload_n dJx4a65c_add_72be8_16 rfl ?_
    refine r_iconst dJx4a65c_add_72be8_17 ?_
    refine r_iadd dJx4a65c_add_72be8_18 ?_
    refine r_putI qJx4a65c_48 dJx4a65c_add_72be8_19 (by assumption) (kk := ?_)
    exact r_vret dJx4a65c_add_72be8_22 (⟨rfl, e, cap, ⟨h1, by rw [mI_sI]; simp [upd], h3, hn, h5, h6⟩, h7, by show mQ (sQ M e _) e n = _; rw [mQ_sQ, up_s], fun j hj => by show mQ (sQ M e _) e j = _; rw [mQ_sQ, up_n _ _ (by omega)], fun b _ hb1 hb2 => (Sm.Q hb2).tr (Sm.Iu hb1), fun b _ => rfl, Nat.le_refl _, Or.inl ⟨rfl, rfl, hn, rfl⟩⟩)
  · have hnc : n = cap := by omega
    subst hnc
    rw [if_neg hn, if_neg hn]
    refine r_lt (fun hlt => ?_)
    have hll := (hlt l _ _ h1).1
    have haa := (hlt a _ _ ha).1
    have hle : l ≠ e := fun q => by
      rcases h6 with ⟨-, h6⟩ | ⟨-, -, h6⟩ <;> rw [← q, h1] at h6 <;> cases h6
    have hlen : ∃ t9, mC M e = some (t9, n) ∧ 11 ≤ t9 ∧ t9 < 18 := by
      rcases h6 with ⟨-, h6⟩ | ⟨h0, -, h6⟩
      · exact ⟨13, h6, by omega, by omega⟩
      · exact ⟨17, by rw [h0]; exact h6, by omega, by omega⟩
    obtain ⟨t9, g1, g2, g3⟩ := hlen
    have hee := (hlt e _ _ g1).1
    refine r_iload_n dJx4a65c_add_72be8_0 rfl ?_
    refine r_aload_n dJx4a65c_add_72be8_1 rfl ?_
    refine r_alen dJx4a65c_add_72be8_2 g1 ⟨g2, g3⟩ (k := ?_)
    refine r_icmp_ne (tgt := 11) dJx4a65c_add_72be8_3 (by decide) (kt := fun z3 => (by exfalso; first | omega | simp_all)) (kf := fun z3 => ?_)
    refine r_aload_n dJx4a65c_add_72be8_6 rfl ?_
    refine r_callV vJx4a65c_129 dJx4a65c_add_72be8_7 (by assumption) (c_grow0 h (ho rfl)) (hm := ⟨by simp [rmd], by simp [rmd]⟩) (k := kA fun r M' hr => ?_) (kx := r_nox)
    obtain ⟨rfl, nc, p1, p2, p3, p4, p5, p6, p7, q1, q2⟩ := hr
    have hc2 : mC M' l = some (10, 0) := p3.trans h1
    have hc3 : mC M' a = some (t, 0) := (p6 a haa hal).c ha
    refine r_astore_n dJx4a65c_add_72be8_10 (k := ?_)
    refine r_aload_n dJx4a65c_add_72be8_11 rfl ?_
    refine r_iload_n dJx4a65c_add_72be8_12 rfl ?_
    refine r_aload_n dJx4a65c_add_72be8_13 rfl ?_
    refine r_aast dJx4a65c_add_72be8_14 p1 hc3 rfl ht (k := ?_)
    refine r_aload_n dJx4a65c_add_72be8_15 rfl ?_
    refine r_iload_n dJx4a65c_add_72be8_16 rfl ?_
    refine r_iconst dJx4a65c_add_72be8_17 ?_
    refine r_iadd dJx4a65c_add_72be8_18 ?_
    refine r_putI qJx4a65c_48 dJx4a65c_add_72be8_19 hc2 (kk := ?_)
    exact r_vret dJx4a65c_add_72be8_22 (⟨rfl, addP_of p1 p2 hc2 p5 p6 p7 q1 (by omega) hee hle q2⟩)
/-- List.add -/
theorem c_add {l e n cap a t : Nat} (h : LL G M l e n cap) (ho : n = cap → Obs M e n) (h20 : cap ≤ 20000) (ha : mC M a = some (t, 0)) (ht : t < 11) (hal : a ≠ l) : Ht G iJx4a65c_add_9ea2d yJx4a65c_add_9ea2d 14 [.ref l, .ref a] M (rI fun _ => AddP G M l e n cap a) nX (if n < cap then 0 else 1) (if n < cap then 0 else n + n / 2 + 10) := by
  obtain ⟨h1, h2, h3, h4, h5, h6⟩ := id h
  obtain ⟨u, hu⟩ : ∃ u : Int, mI M 640 l = iz u := ⟨_, iz_of _⟩
  have hle : e ≠ l := fun q => by
    rcases h6 with ⟨-, h6⟩ | ⟨-, -, h6⟩ <;> rw [q, h1] at h6 <;> cases h6
  refine ht_intro (by decide +kernel) rfl rfl rfl (Nat.le_of_ble_eq_true rfl) ?_
  refine r_aload_n dJx4a65c_add_9ea2d_0 rfl ?_
  refine r_dup dJx4a65c_add_9ea2d_1 (k := ?_)
  refine r_getI qJx4a65c_63 dJx4a65c_add_9ea2d_2 h1 hu (kk := ?_)
  refine r_iconst dJx4a65c_add_9ea2d_5 ?_
  refine r_iadd dJx4a65c_add_9ea2d_6 ?_
  refine r_putI qJx4a65c_63 dJx4a65c_add_9ea2d_7 (by assumption) (kk := ?_)
  refine r_aload_n dJx4a65c_add_9ea2d_10 rfl ?_
  refine r_aload_n dJx4a65c_add_9ea2d_11 rfl ?_
  refine r_aload_n dJx4a65c_add_9ea2d_12 rfl ?_
  refine r_getR qJx4a65c_9 dJx4a65c_add_9ea2d_13 (by assumption) (by assumption) (kk := ?_)
  refine r_aload_n dJx4a65c_add_9ea2d_16 rfl ?_
  refine r_getI qJx4a65c_48 dJx4a65c_add_9ea2d_17 (by assumption) (by assumption) (kk := ?_)
  refine r_callV vJx4a65c_131 dJx4a65c_add_9ea2d_20 (by assumption) (c_add3 (M := sI M 640 (upd (mI M 640) l (iz (u + 1)))) (e := e) (n := n) (cap := cap) (t := t) h ho h20 ha ht hal) (hm := ⟨by simp [rmd], by simp [rmd]⟩) (k := kV fun M' hM => ?_) (kx := r_nox)
  refine r_iconst dJx4a65c_add_9ea2d_23 ?_
  obtain ⟨e', cap', g1, g2, g3, g4, g5, g6, g7, g8⟩ := hM
  exact r_iret dJx4a65c_add_9ea2d_24 (⟨_, rfl, e', cap', g1, g2, g3, g4, fun b hb hb1 hb2 => (Sm.Iu hb1).tr (g5 b hb hb1 hb2), g6, g7, g8.elim Or.inl (fun ⟨q1, q2, q3, q4, q5⟩ => Or.inr ⟨q1, q2, q3, q4, (Sm.Iu hle).tr q5⟩)⟩)
theorem qJxc12de_7 : Cond.fieldLink RJxc12de 7 (cT 10 0).1 (cT 10 0).2.1 (cT 10 0).2.2.1 ∈ wG := wG_of (by decide +kernel) (by decide +kernel)
theorem c_acInit {l : Nat} : Ht G iJxa1e45_init_da8c8 yJxa1e45_init_da8c8 2 [.ref l] M (rPV M) nX 0 0 := by
  refine ht_intro (by decide +kernel) rfl rfl rfl (Nat.le_of_ble_eq_true rfl) ?_
  refine r_aload_n dJxa1e45_init_da8c8_0 rfl ?_
  refine r_oinit vJxa1e45_1 dJxa1e45_init_da8c8_1 (k := ?_)
  exact r_vret dJxa1e45_init_da8c8_4 (⟨rfl, rfl⟩)
theorem c_alInit {l : Nat} (hl : mC M l = some (10, 0)) : Ht G iJxc12de_init_da8c8 yJxc12de_init_da8c8 4 [.ref l] M (rPV (sI M 640 (upd (mI M 640) l (iz 0)))) nX 0 0 := by
  refine ht_intro (by decide +kernel) rfl rfl rfl (Nat.le_of_ble_eq_true rfl) ?_
  refine r_aload_n dJxc12de_init_da8c8_0 rfl ?_
  refine r_callI vJxc12de_1 dJxc12de_init_da8c8_1 (c_acInit) (hm := ⟨by omega, by omega⟩) (k := kPV ?_) (kx := r_nox)
  refine r_aload_n dJxc12de_init_da8c8_4 rfl ?_
  refine r_iconst dJxc12de_init_da8c8_5 ?_
  refine r_putDI (t := 10) (k := 0) qJxc12de_7 dJxc12de_init_da8c8_6 hl (kk := ?_)
  exact r_vret dJxc12de_init_da8c8_9 (⟨rfl, rfl⟩)
/-- List.<init> -/
theorem c_listInit {l : Nat} (hl : mC M l = some (10, 0)) (h2 : mI M 642 l = iz 0) (hE : mC M G.2.2.2 = some (17, 0)) : Ht G iJx4a65c_init_da8c8 yJx4a65c_init_da8c8 6 [.ref l] M (rV fun M' => LL G M' l G.2.2.2 0 0 ∧ mN M' = mN M ∧ mC M' = mC M ∧ ∀ b, b ≠ l → Sm M M' b) nX 0 0 := by
  refine ht_intro (by decide +kernel) rfl rfl rfl (Nat.le_of_ble_eq_true rfl) ?_
  refine r_aload_n dJx4a65c_init_da8c8_0 rfl ?_
  refine r_callI vJx4a65c_1 dJx4a65c_init_da8c8_1 (c_alInit hl) (hm := ⟨by omega, by omega⟩) (k := kPV ?_) (kx := r_nox)
  refine r_aload_n dJx4a65c_init_da8c8_4 rfl ?_
  refine r_gete qJx4a65c_39 dJx4a65c_init_da8c8_5 ?_
  refine r_putR qJx4a65c_9 dJx4a65c_init_da8c8_8 hl (kk := ?_)
  exact r_vret dJx4a65c_init_da8c8_11 (⟨rfl, ⟨hl, (congrFun (mI_sIn M 640 642 (upd (mI M 640) l (iz 0)) (by decide)) l).trans h2, by rw [mR_sR, up_s], Nat.le_refl _, by omega, Or.inr ⟨rfl, rfl, hE⟩⟩, rfl, rfl, fun b hb => (Sm.Iu hb).tr (Sm.Ru hb)⟩)
end ADDS
end
section
/-! The village as numbers: both the class and the reference are held against this. -/
section STATE
/-- scalars: 0 places, 1 streets, 2 houses, 3 rounds, 4 parcels, 5 bag, 6 clock, 7 late, 8 taken, 9 walked; rows: 1 first, 2 second, 3 length, 4 round + 1, 5 street of a house, 6 side, 7 offset, 8 letters, 9 limit, 10 house of a parcel, 11 weight, 12 deadline, 13 wide, 14 delivered -/
abbrev St : Type := (Nat → Nat) × (Nat → Nat → Nat)
def stS (σ : St) (j v : Nat) : St := (va_up σ.1 j v, σ.2)
def stF (σ : St) (k : Nat) (F : Nat → Nat) : St := (σ.1, va_up σ.2 k F)
def stA (σ : St) (k i v : Nat) : St := stF σ k (va_up (σ.2 k) i v)
/-- the scalar that counts a row's places in use -/
def nOf (k : Nat) : Nat := match k with | 1 => 1 | 2 => 1 | 3 => 1 | 4 => 1 | 13 => 1 | 5 => 2 | 6 => 2 | 7 => 2 | 8 => 10 | 9 => 3 | _ => 4
def vz (k v : Nat) : Int32 := if k = 4 then iz ((v : Int) - 1) else iz (v : Int)
/-- what always holds; T: the calls so far -/
def Ok (σ : St) (T : Nat) : Prop := (1 ≤ σ.1 0 ∧ σ.1 0 ≤ 10 ∧ σ.1 1 ≤ 16 ∧ σ.1 2 ≤ 30 ∧ σ.1 3 ≤ 4 ∧ σ.1 4 ≤ 20 ∧ σ.1 5 ≤ 99 ∧ σ.1 6 ≤ 700 * T ∧ σ.1 7 ≤ T ∧ σ.1 8 ≤ T ∧ σ.1 7 ≤ σ.1 8 ∧ σ.1 9 ≤ 10000 * T ∧ T ≤ 512 ∧ σ.1 10 = 30 ∧ ∀ i, σ.1 2 ≤ i → σ.2 8 i = 0) ∧
  (∀ i, i < σ.1 1 → σ.2 1 i < σ.1 0 ∧ σ.2 2 i < σ.1 0 ∧ σ.2 1 i ≠ σ.2 2 i ∧ 1 ≤ σ.2 3 i ∧ σ.2 3 i ≤ 99 ∧ σ.2 13 i ≤ 1 ∧ σ.2 4 i ≤ σ.1 3) ∧
  (∀ h, h < σ.1 2 → σ.2 5 h < σ.1 1 ∧ σ.2 6 h ≤ 1 ∧ σ.2 7 h ≤ σ.2 3 (σ.2 5 h) ∧ σ.2 8 h ≤ 99) ∧
  (∀ r, r < σ.1 3 → 1 ≤ σ.2 9 r ∧ σ.2 9 r ≤ 999) ∧
  (∀ q, q < σ.1 4 → σ.2 10 q < σ.1 2 ∧ 1 ≤ σ.2 11 q ∧ σ.2 11 q ≤ 99 ∧ 1 ≤ σ.2 12 q ∧ σ.2 12 q ≤ 999 ∧ σ.2 14 q ≤ 1)
theorem Ok.h8 {σ : St} {T h : Nat} (hO : Ok σ T) (hh : h < σ.1 2) : h < σ.1 (nOf 8) := by
  obtain ⟨⟨-, -, -, p2, -, -, -, -, -, -, -, -, -, p10, -⟩, -⟩ := hO
  show h < σ.1 10; omega
/-- how many of the first n -/
def cnt (P : Nat → Bool) : Nat → Nat
  | 0 => 0
  | n + 1 => cnt P n + (if P n then 1 else 0)
theorem cnt_le (P : Nat → Bool) : ∀ n, cnt P n ≤ n
  | 0 => Nat.le_refl 0
  | n + 1 => by
    have := cnt_le P n
    simp only [cnt]
    split <;> omega
def any (P : Nat → Bool) : Nat → Bool
  | 0 => false
  | n + 1 => any P n || P n
theorem any_iff (P : Nat → Bool) : ∀ n, any P n = true ↔ ∃ i, i < n ∧ P i = true
  | 0 => by simp [any]
  | n + 1 => by
    simp only [any, Bool.or_eq_true, any_iff P n]
    constructor
    · rintro (⟨i, h1, h2⟩ | h)
      · exact ⟨i, by omega, h2⟩
      · exact ⟨n, by omega, h⟩
    · rintro ⟨i, h1, h2⟩
      by_cases e : i = n
      · subst e; exact Or.inr h2
      · exact Or.inl ⟨i, by omega, h2⟩
theorem any_f (P : Nat → Bool) (n : Nat) (h : ∀ i, i < n → P i = false) : any P n = false := by
  cases e : any P n with
  | false => rfl
  | true =>
    obtain ⟨i, h1, h2⟩ := (any_iff P n).mp e
    rw [h i h1] at h2; cases h2
theorem any_t (P : Nat → Bool) {n i : Nat} (h : i < n) (h2 : P i = true) : any P n = true := (any_iff P n).mpr ⟨i, h, h2⟩
theorem cnt_any (P : Nat → Bool) : ∀ n, (0 < cnt P n ↔ any P n = true)
  | 0 => by simp [cnt, any]
  | n + 1 => by
    simp only [cnt, any, Bool.or_eq_true, ← cnt_any P n]
    cases P n <;> simp
/-- a parcel for the rounds -/
def light (σ : St) (q : Nat) : Bool := σ.2 14 q == 0 && decide (σ.2 11 q ≤ σ.1 5)
def forH (σ : St) (h q : Nat) : Bool := σ.2 10 q == h && light σ q
/-- a house is due -/
def post (σ : St) (h : Nat) : Bool := decide (0 < σ.2 8 h) || any (forH σ h) (σ.1 4)
/-- a street belongs to the rounds g -/
def inG (σ : St) (s g : Nat) : Bool := σ.2 4 s != 0 && g.testBit (σ.2 4 s - 1)
def dueB (σ : St) (g h : Nat) : Bool := inG σ (σ.2 5 h) g && post σ h
def dueN (σ : St) (g : Nat) : Nat := cnt (dueB σ g) (σ.1 2)
def lightB (σ : St) (g q : Nat) : Bool := inG σ (σ.2 5 (σ.2 10 q)) g && light σ q
def lightN (σ : St) (g : Nat) : Nat := cnt (lightB σ g) (σ.1 4)
def rankB (σ : St) (h m : Nat) : Bool := σ.2 5 m == σ.2 5 h && σ.2 6 m == σ.2 6 h && (decide (σ.2 7 m < σ.2 7 h) || (σ.2 7 m == σ.2 7 h && decide (m < h)))
def rank (σ : St) (h : Nat) : Nat := cnt (rankB σ h) (σ.1 2)
end STATE
section REFM
/-- the reference's rows: which there are, their kinds and lengths -/
def arK : List Nat := [1, 2, 3, 4, 5, 6, 7, 8, 9, 10, 11, 12, 13, 14, 25, 26, 28, 29, 31, 32, 35]
def arT (k : Nat) : Nat := if k = 13 ∨ k = 14 then 12 else 11
def arL (k : Nat) : Nat := match k with | 1 => 16 | 2 => 16 | 3 => 16 | 4 => 16 | 13 => 16 | 5 => 30 | 6 => 30 | 7 => 30 | 8 => 30 | 9 => 4 | 25 => 100 | 26 => 64 | 28 => 2560 | 29 => 8 | 31 => 16 | 32 => 16 | 35 => 128 | _ => 20
/-- the reference in the memory: Y 0 its object, Y k its row of the field k -/
def RM (M : Mem) (Y : Nat → Nat) (σ : St) : Prop := mC M (Y 0) = some (9, 0) ∧ (∀ k, k ∈ arK → mR M (576 + k) (Y 0) = some (Y k) ∧ mC M (Y k) = some (arT k, arL k)) ∧ (∀ k j, k ∈ arK → j ∈ arK → Y k = Y j → k = j) ∧
  (∀ j, j < 9 → mI M (591 + j) (Y 0) = iz (σ.1 j : Int)) ∧ mJ M 600 (Y 0) = lN (σ.1 9) ∧ ∀ k, 1 ≤ k → k < 15 → ∀ i, i < σ.1 (nOf k) → mA M (Y k) i = vz k (σ.2 k i)
theorem RM.o {M : Mem} {Y : Nat → Nat} {σ : St} (h : RM M Y σ) : mC M (Y 0) = some (9, 0) := h.1
theorem RM.r {M : Mem} {Y : Nat → Nat} {σ : St} (h : RM M Y σ) (k : Nat) (hk : k ∈ arK := by decide) : mR M (576 + k) (Y 0) = some (Y k) := (h.2.1 k hk).1
theorem RM.c {M : Mem} {Y : Nat → Nat} {σ : St} (h : RM M Y σ) (k : Nat) (hk : k ∈ arK := by decide) : mC M (Y k) = some (arT k, arL k) := (h.2.1 k hk).2
theorem RM.s {M : Mem} {Y : Nat → Nat} {σ : St} (h : RM M Y σ) (j : Nat) (hj : j < 9 := by decide) : mI M (591 + j) (Y 0) = iz (σ.1 j : Int) := h.2.2.2.1 j hj
theorem RM.j {M : Mem} {Y : Nat → Nat} {σ : St} (h : RM M Y σ) : mJ M 600 (Y 0) = lN (σ.1 9) := h.2.2.2.2.1
theorem RM.a {M : Mem} {Y : Nat → Nat} {σ : St} (h : RM M Y σ) (k i : Nat) (hi : i < σ.1 (nOf k)) (h1 : 1 ≤ k := by decide) (h2 : k < 15 := by decide) : mA M (Y k) i = vz k (σ.2 k i) := h.2.2.2.2.2 k h1 h2 i hi
theorem RM.v {M : Mem} {Y : Nat → Nat} {σ : St} (h : RM M Y σ) (k i : Nat) (hi : i < σ.1 (nOf k)) (h1 : 1 ≤ k := by decide) (h2 : k < 15 := by decide) (h3 : k ≠ 4 := by decide) : mA M (Y k) i = iz (σ.2 k i : Int) := (h.a k i hi h1 h2).trans (if_neg h3)
theorem RM.v4 {M : Mem} {Y : Nat → Nat} {σ : St} (h : RM M Y σ) (i : Nat) (hi : i < σ.1 1) : mA M (Y 4) i = iz ((σ.2 4 i : Int) - 1) := (h.a 4 i hi).trans (if_pos rfl)
theorem RM.cc {M : Mem} {Y : Nat → Nat} {σ : St} (h : RM M Y σ) (k t z : Nat) (hk : k ∈ arK ∧ arT k = t ∧ arL k = z := by decide) : mC M (Y k) = some (t, z) := by
  rw [← hk.2.1, ← hk.2.2]; exact h.c k hk.1
theorem RM.ne {M : Mem} {Y : Nat → Nat} {σ : St} (h : RM M Y σ) {k j : Nat} (hkj : k ≠ j) (hk : k ∈ arK := by decide) (hj : j ∈ arK := by decide) : Y k ≠ Y j := fun e => hkj (h.2.2.1 k j hk hj e)
theorem nOf_0 (k : Nat) : nOf k ≠ 0 := by unfold nOf; split <;> decide
theorem arT_ge (k : Nat) : 11 ≤ arT k ∧ arT k ≤ 12 := by unfold arT; split <;> omega
theorem RM.o_ne {M : Mem} {Y : Nat → Nat} {σ : St} (h : RM M Y σ) {k : Nat} (hk : k ∈ arK) : Y k ≠ Y 0 := fun e => by
  have h1 := h.c k hk
  rw [e, h.o] at h1
  have := arT_ge k
  have h2 : (9 : Nat) = arT k := congrArg (fun o : Option (Nat × Nat) => (o.getD (0, 0)).1) h1
  omega
/-- the cells of the reference stay -/
theorem RM.sm {M M' : Mem} {Y : Nat → Nat} {σ : St} (h : RM M Y σ) (h0 : Sm M M' (Y 0)) (ha : ∀ k, k ∈ arK → Sm M M' (Y k)) : RM M' Y σ :=
  ⟨h0.c h.o, fun k hk => ⟨h0.r (h.r k hk), (ha k hk).c (h.c k hk)⟩, h.2.2.1, fun j hj => h0.i (h.s j hj), h0.j h.j, fun k h1 h2 i hi => by
    have hk : k ∈ arK := by
      have : ∀ k, 1 ≤ k → k < 15 → k ∈ arK := by
        intro k h1 h2
        match k, h1, h2 with
        | 1, _, _ | 2, _, _ | 3, _, _ | 4, _, _ | 5, _, _ | 6, _, _ | 7, _, _ | 8, _, _ | 9, _, _ | 10, _, _ | 11, _, _ | 12, _, _ | 13, _, _ | 14, _, _ => decide
      exact this k h1 h2
    rw [(ha k hk).aa]; exact h.a k i hi h1 h2⟩
/-- a number of the object that is no scalar of the village is written -/
theorem RM.w {M : Mem} {Y : Nat → Nat} {σ : St} (h : RM M Y σ) {f : Nat} {x : Int32} (hf : f < 591 ∨ 600 ≤ f := by decide) : RM (sI M f (upd (mI M f) (Y 0) x)) Y σ := by
  refine ⟨h.o, fun k hk => h.2.1 k hk, h.2.2.1, fun j hj => ?_, h.j, h.2.2.2.2.2⟩
  show mI (sI M f _) (591 + j) (Y 0) = _
  rw [mI_sIn _ _ _ _ (by omega)]; exact h.s j hj
/-- a row that is no row of the village is written -/
theorem RM.x {M : Mem} {Y : Nat → Nat} {σ : St} (h : RM M Y σ) {k : Nat} {K : Nat → Int32} (hk : 15 ≤ k := by decide) (hk2 : k ∈ arK := by decide) : RM (sA M (Y k) K) Y σ := by
  refine ⟨h.o, fun j hj => h.2.1 j hj, h.2.2.1, h.2.2.2.1, h.j, fun j h1 h2 i hi => ?_⟩
  have hj : j ∈ arK := by
    have : ∀ k, 1 ≤ k → k < 15 → k ∈ arK := by
      intro k h1 h2
      match k, h1, h2 with
      | 1, _, _ | 2, _, _ | 3, _, _ | 4, _, _ | 5, _, _ | 6, _, _ | 7, _, _ | 8, _, _ | 9, _, _ | 10, _, _ | 11, _, _ | 12, _, _ | 13, _, _ | 14, _, _ => decide
    exact this j h1 h2
  show mA (sA M (Y k) K) (Y j) i = _
  rw [mA_sAn _ _ _ _ (h.ne (by omega) hj hk2)]; exact h.a j i hi h1 h2
/-- a scalar is written -/
theorem RM.ws {M : Mem} {Y : Nat → Nat} {σ : St} (h : RM M Y σ) (j v : Nat) {f : Nat} (hf : f = 591 + j) (hj : j < 9) (hgrow : ∀ k, 1 ≤ k → k < 15 → ∀ i, i < (stS σ j v).1 (nOf k) → mA M (Y k) i = vz k (σ.2 k i)) : RM (sI M f (upd (mI M f) (Y 0) (iz (v : Int)))) Y (stS σ j v) := by
  subst hf
  refine ⟨h.o, fun k hk => h.2.1 k hk, h.2.2.1, fun i hi => ?_, ?_, hgrow⟩
  · show mI (sI M (591 + j) _) (591 + i) (Y 0) = iz ((va_up σ.1 j v i : Nat) : Int)
    by_cases e : i = j
    · subst e; rw [mI_sI, up_s]; simp [upd]
    · rw [mI_sIn _ _ _ _ (by omega), up_n _ _ e]; exact h.s i hi
  · show mJ M 600 (Y 0) = lN (va_up σ.1 j v 9)
    rw [up_n _ _ (by omega)]; exact h.j
theorem arK_of : ∀ k, 1 ≤ k → k < 15 → k ∈ arK := by
  intro k h1 h2
  match k, h1, h2 with
  | 1, _, _ | 2, _, _ | 3, _, _ | 4, _, _ | 5, _, _ | 6, _, _ | 7, _, _ | 8, _, _ | 9, _, _ | 10, _, _ | 11, _, _ | 12, _, _ | 13, _, _ | 14, _, _ => decide
/-- one place of a row holds what the village says -/
def RAt (M : Mem) (Y : Nat → Nat) (σ : St) (k i : Nat) : Prop := mA M (Y k) i = vz k (σ.2 k i)
theorem RAt.self {M : Mem} {Y : Nat → Nat} {σ : St} (k i v : Nat) : RAt (sA M (Y k) (upd (mA M (Y k)) i (vz k v))) Y (stA σ k i v) k i := by
  show mA (sA M (Y k) _) (Y k) i = vz k (va_up σ.2 k (va_up (σ.2 k) i v) k i)
  rw [mA_sA, up_s, up_s]; simp [upd]
theorem RAt.oth {M : Mem} {Y : Nat → Nat} {σ : St} {k i v j i2 : Nat} (h : RAt M Y σ j i2) (hY : Y j ≠ Y k) (hj : j ≠ k) : RAt (sA M (Y k) (upd (mA M (Y k)) i (vz k v))) Y (stA σ k i v) j i2 := by
  show mA (sA M (Y k) _) (Y j) i2 = vz j (va_up σ.2 k (va_up (σ.2 k) i v) j i2)
  rw [mA_sAn _ _ _ _ hY, up_n _ _ hj]; exact h
theorem RM.wa {M : Mem} {Y : Nat → Nat} {σ : St} (h : RM M Y σ) (k i v : Nat) (h1 : 1 ≤ k := by decide) (h2 : k < 15 := by decide) : RM (sA M (Y k) (upd (mA M (Y k)) i (vz k v))) Y (stA σ k i v) := by
  refine ⟨h.o, fun j hj => h.2.1 j hj, h.2.2.1, h.2.2.2.1, h.j, fun j g1 g2 i2 hi => ?_⟩
  by_cases e : j = k
  · subst e
    show mA (sA M (Y j) _) (Y j) i2 = vz j (va_up σ.2 j (va_up (σ.2 j) i v) j i2)
    rw [mA_sA, up_s]
    by_cases e2 : i2 = i
    · subst e2; rw [up_s]; simp [upd]
    · rw [up_n _ _ e2]; simp only [upd, if_neg e2]; exact h.a j i2 hi g1 g2
  · exact RAt.oth (h.a j i2 hi g1 g2) (h.ne e (arK_of j g1 g2) (arK_of k h1 h2)) e
/-- a whole row changes -/
theorem RM.wf {M : Mem} {Y : Nat → Nat} {σ : St} (h : RM M Y σ) (k : Nat) {K : Nat → Int32} {F : Nat → Nat} (hK : ∀ i, i < σ.1 (nOf k) → K i = vz k (F i)) (h1 : 1 ≤ k := by decide) (h2 : k < 15 := by decide) : RM (sA M (Y k) K) Y (stF σ k F) := by
  refine ⟨h.o, fun j hj => h.2.1 j hj, h.2.2.1, h.2.2.2.1, h.j, fun j g1 g2 i2 hi => ?_⟩
  by_cases e : j = k
  · subst e
    show mA (sA M (Y j) _) (Y j) i2 = vz j (va_up σ.2 j F j i2)
    rw [mA_sA, up_s]; exact hK i2 hi
  · show mA (sA M (Y k) _) (Y j) i2 = vz j (va_up σ.2 k F j i2)
    rw [mA_sAn _ _ _ _ (h.ne e (arK_of j g1 g2) (arK_of k h1 h2)), up_n _ _ e]; exact h.a j i2 hi g1 g2
/-- a row's count grows by one -/
theorem RM.grow {M : Mem} {Y : Nat → Nat} {σ : St} (h : RM M Y σ) (j : Nat) {f : Nat} {z : Int} (hf : f = 591 + j) (hz : z = ((σ.1 j + 1 : Nat) : Int)) (hj : j < 9) (hx : ∀ k, 1 ≤ k → k < 15 → nOf k = j → RAt M Y σ k (σ.1 j)) : RM (sI M f (upd (mI M f) (Y 0) (iz z))) Y (stS σ j (σ.1 j + 1)) := by
  subst hz
  refine h.ws j (σ.1 j + 1) hf hj (fun k h1 h2 i hi => ?_)
  by_cases e : nOf k = j
  · have hi2 : i < σ.1 j + 1 := by
      have : (stS σ j (σ.1 j + 1)).1 (nOf k) = σ.1 j + 1 := by rw [e]; exact up_s _ _ _
      omega
    by_cases e2 : i = σ.1 j
    · rw [e2]; exact hx k h1 h2 e
    · exact h.a k i (by rw [e]; omega) h1 h2
  · have : (stS σ j (σ.1 j + 1)).1 (nOf k) = σ.1 (nOf k) := up_n _ _ e
    exact h.a k i (by omega) h1 h2
theorem RM.wj {M : Mem} {Y : Nat → Nat} {σ : St} (h : RM M Y σ) (v : Nat) : RM (sJ M 600 (va_up (mJ M 600) (Y 0) (lN v))) Y (stS σ 9 v) := by
  refine ⟨h.o, fun k hk => h.2.1 k hk, h.2.2.1, fun i hi => ?_, ?_, fun k h1 h2 i hi => ?_⟩
  · show mI M (591 + i) (Y 0) = iz ((va_up σ.1 9 v i : Nat) : Int)
    rw [up_n _ _ (by omega)]; exact h.s i hi
  · show mJ (sJ M 600 _) 600 (Y 0) = lN (va_up σ.1 9 v 9)
    rw [mJ_sJ, up_s, up_s]
  · have : (stS σ 9 v).1 (nOf k) = σ.1 (nOf k) := up_n _ _ (by unfold nOf; split <;> decide)
    exact h.a k i (by omega) h1 h2
/-- what the reference's methods leave alone -/
def FrM (Y : Nat → Nat) (M M' : Mem) : Prop := mN M' = mN M ∧ ∀ b, b ≠ Y 0 → (∀ k, k ∈ arK → b ≠ Y k) → Sm M M' b
theorem FrM.rf {Y : Nat → Nat} {M : Mem} : FrM Y M M := ⟨rfl, fun _ _ _ => Sm.rf⟩
theorem FrM.tr {Y : Nat → Nat} {M M' M'' : Mem} (h : FrM Y M M') (k : FrM Y M' M'') : FrM Y M M'' := ⟨k.1.trans h.1, fun b h0 h1 => (h.2 b h0 h1).tr (k.2 b h0 h1)⟩
theorem FrM.i {Y : Nat → Nat} {M : Mem} {f : Nat} {x : Int32} : FrM Y M (sI M f (upd (mI M f) (Y 0) x)) := ⟨rfl, fun _ h0 _ => Sm.Iu h0⟩
theorem FrM.j {Y : Nat → Nat} {M : Mem} {f : Nat} {x : Int64} : FrM Y M (sJ M f (va_up (mJ M f) (Y 0) x)) := ⟨rfl, fun _ h0 _ => Sm.Ju h0⟩
theorem FrM.a {Y : Nat → Nat} {M : Mem} (k : Nat) {K : Nat → Int32} (hk : k ∈ arK := by decide) : FrM Y M (sA M (Y k) K) := ⟨rfl, fun _ _ h1 => Sm.A (h1 k hk)⟩
/-- behind a call of the reference: the village, what it has thrown, what it left alone -/
def MP (Y : Nat → Nat) (M : Mem) (σ : St) (c : Nat) (M' : Mem) : Prop := RM M' Y σ ∧ mI M' 576 (Y 0) = iz (c : Int) ∧ FrM Y M M'
/-- behind the stores of a new thing's rows -/
def AP (Y : Nat → Nat) (M : Mem) (σ : St) (n : Nat) (l : List Nat) (M' : Mem) : Prop := MP Y M σ 0 M' ∧ ∀ k ∈ l, RAt M' Y σ k n
theorem ap_0 {Y : Nat → Nat} {M M' : Mem} {σ : St} (n : Nat) (h : MP Y M σ 0 M') : AP Y M σ n [] M' := ⟨h, fun _ h => nomatch h⟩
theorem ap_st {Y : Nat → Nat} {M M1 : Mem} {σ : St} {l : List Nat} {x : Int32} {k i v : Nat} (h : AP Y M σ i l M1) (hv : x = vz k v := by rfl) (hl : ∀ p ∈ l, p ≠ k ∧ p ∈ arK := by decide) (h1 : 1 ≤ k := by decide) (h2 : k < 15 := by decide) : AP Y M (stA σ k i v) i (k :: l) (sA M1 (Y k) (upd (mA M1 (Y k)) i x)) := by
  subst hv
  have hk := arK_of k h1 h2
  refine ⟨⟨h.1.1.wa k i v h1 h2, h.1.2.1, h.1.2.2.tr (FrM.a k hk)⟩, fun p hp => ?_⟩
  rcases List.mem_cons.mp hp with e | e
  · rw [e]; exact RAt.self k i v
  · exact (h.2 p e).oth (h.1.1.ne (hl p e).1 (hl p e).2 hk) (hl p e).1
theorem ap_grow {Y : Nat → Nat} {M M1 : Mem} {σ : St} {l : List Nat} {n : Nat} (h : AP Y M σ n l M1) (j : Nat) {f : Nat} {z : Int} (hl : ∀ k, k < 15 → nOf k = j → k ∈ l ∨ k = 0 := by decide) (hn : n = σ.1 j := by rfl) (hf : f = 591 + j := by rfl) (hz : z = ((n + 1 : Nat) : Int) := by rfl) (hj : j < 9 := by decide) : MP Y M (stS σ j (n + 1)) 0 (sI M1 f (upd (mI M1 f) (Y 0) (iz z))) := by
  subst hn
  exact ⟨h.1.1.grow j hf hz hj (fun k h1 h2 h3 => h.2 k ((hl k h2 h3).resolve_right (by omega))), (congrFun (mI_sIn _ _ _ _ (by omega)) _).trans h.1.2.1, h.1.2.2.tr FrM.i⟩
theorem bz_vz (w : Bool) : bz w = vz 13 (if w then 1 else 0) := by cases w <;> rfl
end REFM
end
section
theorem dX9_init_0 : decode cX9_init 0 = .ok (.aload_n 0, 1) := by decide +kernel
theorem dX9_init_1 : decode cX9_init 1 = .ok (.invokespecial 1, 3) := by decide +kernel
theorem dX9_init_4 : decode cX9_init 4 = .ok (.aload_n 0, 1) := by decide +kernel
theorem dX9_init_5 : decode cX9_init 5 = .ok (.bipush 16, 2) := by decide +kernel
theorem dX9_init_7 : decode cX9_init 7 = .ok (.newarray .int, 2) := by decide +kernel
theorem dX9_init_9 : decode cX9_init 9 = .ok (.putfield 9, 3) := by decide +kernel
theorem dX9_init_12 : decode cX9_init 12 = .ok (.aload_n 0, 1) := by decide +kernel
theorem dX9_init_13 : decode cX9_init 13 = .ok (.bipush 16, 2) := by decide +kernel
theorem dX9_init_15 : decode cX9_init 15 = .ok (.newarray .int, 2) := by decide +kernel
theorem dX9_init_17 : decode cX9_init 17 = .ok (.putfield 13, 3) := by decide +kernel
theorem dX9_init_20 : decode cX9_init 20 = .ok (.aload_n 0, 1) := by decide +kernel
theorem dX9_init_21 : decode cX9_init 21 = .ok (.bipush 16, 2) := by decide +kernel
theorem dX9_init_23 : decode cX9_init 23 = .ok (.newarray .int, 2) := by decide +kernel
theorem dX9_init_25 : decode cX9_init 25 = .ok (.putfield 16, 3) := by decide +kernel
theorem dX9_init_28 : decode cX9_init 28 = .ok (.aload_n 0, 1) := by decide +kernel
theorem dX9_init_29 : decode cX9_init 29 = .ok (.bipush 16, 2) := by decide +kernel
theorem dX9_init_31 : decode cX9_init 31 = .ok (.newarray .int, 2) := by decide +kernel
theorem dX9_init_33 : decode cX9_init 33 = .ok (.putfield 19, 3) := by decide +kernel
theorem dX9_init_36 : decode cX9_init 36 = .ok (.aload_n 0, 1) := by decide +kernel
theorem dX9_init_37 : decode cX9_init 37 = .ok (.bipush 30, 2) := by decide +kernel
theorem dX9_init_39 : decode cX9_init 39 = .ok (.newarray .int, 2) := by decide +kernel
theorem dX9_init_41 : decode cX9_init 41 = .ok (.putfield 22, 3) := by decide +kernel
theorem dX9_init_44 : decode cX9_init 44 = .ok (.aload_n 0, 1) := by decide +kernel
theorem dX9_init_45 : decode cX9_init 45 = .ok (.bipush 30, 2) := by decide +kernel
theorem dX9_init_47 : decode cX9_init 47 = .ok (.newarray .int, 2) := by decide +kernel
theorem dX9_init_49 : decode cX9_init 49 = .ok (.putfield 25, 3) := by decide +kernel
theorem dX9_init_52 : decode cX9_init 52 = .ok (.aload_n 0, 1) := by decide +kernel
theorem dX9_init_53 : decode cX9_init 53 = .ok (.bipush 30, 2) := by decide +kernel
theorem dX9_init_55 : decode cX9_init 55 = .ok (.newarray .int, 2) := by decide +kernel
theorem dX9_init_57 : decode cX9_init 57 = .ok (.putfield 28, 3) := by decide +kernel
theorem dX9_init_60 : decode cX9_init 60 = .ok (.aload_n 0, 1) := by decide +kernel
theorem dX9_init_61 : decode cX9_init 61 = .ok (.bipush 30, 2) := by decide +kernel
theorem dX9_init_63 : decode cX9_init 63 = .ok (.newarray .int, 2) := by decide +kernel
theorem dX9_init_65 : decode cX9_init 65 = .ok (.putfield 31, 3) := by decide +kernel
theorem dX9_init_68 : decode cX9_init 68 = .ok (.aload_n 0, 1) := by decide +kernel
theorem dX9_init_69 : decode cX9_init 69 = .ok (.iconst 4, 1) := by decide +kernel
theorem dX9_init_70 : decode cX9_init 70 = .ok (.newarray .int, 2) := by decide +kernel
theorem dX9_init_72 : decode cX9_init 72 = .ok (.putfield 34, 3) := by decide +kernel
theorem dX9_init_75 : decode cX9_init 75 = .ok (.aload_n 0, 1) := by decide +kernel
theorem dX9_init_76 : decode cX9_init 76 = .ok (.bipush 20, 2) := by decide +kernel
theorem dX9_init_78 : decode cX9_init 78 = .ok (.newarray .int, 2) := by decide +kernel
theorem dX9_init_80 : decode cX9_init 80 = .ok (.putfield 37, 3) := by decide +kernel
theorem dX9_init_83 : decode cX9_init 83 = .ok (.aload_n 0, 1) := by decide +kernel
theorem dX9_init_84 : decode cX9_init 84 = .ok (.bipush 20, 2) := by decide +kernel
theorem dX9_init_86 : decode cX9_init 86 = .ok (.newarray .int, 2) := by decide +kernel
theorem dX9_init_88 : decode cX9_init 88 = .ok (.putfield 40, 3) := by decide +kernel
theorem dX9_init_91 : decode cX9_init 91 = .ok (.aload_n 0, 1) := by decide +kernel
theorem dX9_init_92 : decode cX9_init 92 = .ok (.bipush 20, 2) := by decide +kernel
theorem dX9_init_94 : decode cX9_init 94 = .ok (.newarray .int, 2) := by decide +kernel
theorem dX9_init_96 : decode cX9_init 96 = .ok (.putfield 43, 3) := by decide +kernel
theorem dX9_init_99 : decode cX9_init 99 = .ok (.aload_n 0, 1) := by decide +kernel
theorem dX9_init_100 : decode cX9_init 100 = .ok (.bipush 16, 2) := by decide +kernel
theorem dX9_init_102 : decode cX9_init 102 = .ok (.newarray .boolean, 2) := by decide +kernel
theorem dX9_init_104 : decode cX9_init 104 = .ok (.putfield 46, 3) := by decide +kernel
theorem dX9_init_107 : decode cX9_init 107 = .ok (.aload_n 0, 1) := by decide +kernel
theorem dX9_init_108 : decode cX9_init 108 = .ok (.bipush 20, 2) := by decide +kernel
theorem dX9_init_110 : decode cX9_init 110 = .ok (.newarray .boolean, 2) := by decide +kernel
theorem dX9_init_112 : decode cX9_init 112 = .ok (.putfield 50, 3) := by decide +kernel
theorem dX9_init_115 : decode cX9_init 115 = .ok (.aload_n 0, 1) := by decide +kernel
theorem dX9_init_116 : decode cX9_init 116 = .ok (.iconst 1, 1) := by decide +kernel
theorem dX9_init_117 : decode cX9_init 117 = .ok (.putfield 53, 3) := by decide +kernel
theorem dX9_init_120 : decode cX9_init 120 = .ok (.aload_n 0, 1) := by decide +kernel
theorem dX9_init_121 : decode cX9_init 121 = .ok (.iconst 5, 1) := by decide +kernel
theorem dX9_init_122 : decode cX9_init 122 = .ok (.putfield 57, 3) := by decide +kernel
theorem dX9_init_125 : decode cX9_init 125 = .ok (.aload_n 0, 1) := by decide +kernel
theorem dX9_init_126 : decode cX9_init 126 = .ok (.bipush 100, 2) := by decide +kernel
theorem dX9_init_128 : decode cX9_init 128 = .ok (.newarray .int, 2) := by decide +kernel
theorem dX9_init_130 : decode cX9_init 130 = .ok (.putfield 60, 3) := by decide +kernel
theorem dX9_init_133 : decode cX9_init 133 = .ok (.aload_n 0, 1) := by decide +kernel
theorem dX9_init_134 : decode cX9_init 134 = .ok (.bipush 64, 2) := by decide +kernel
theorem dX9_init_136 : decode cX9_init 136 = .ok (.newarray .int, 2) := by decide +kernel
theorem dX9_init_138 : decode cX9_init 138 = .ok (.putfield 63, 3) := by decide +kernel
theorem dX9_init_141 : decode cX9_init 141 = .ok (.aload_n 0, 1) := by decide +kernel
theorem dX9_init_142 : decode cX9_init 142 = .ok (.sipush 2560, 3) := by decide +kernel
theorem dX9_init_145 : decode cX9_init 145 = .ok (.newarray .int, 2) := by decide +kernel
theorem dX9_init_147 : decode cX9_init 147 = .ok (.putfield 66, 3) := by decide +kernel
theorem dX9_init_150 : decode cX9_init 150 = .ok (.aload_n 0, 1) := by decide +kernel
theorem dX9_init_151 : decode cX9_init 151 = .ok (.bipush 8, 2) := by decide +kernel
theorem dX9_init_153 : decode cX9_init 153 = .ok (.newarray .int, 2) := by decide +kernel
theorem dX9_init_155 : decode cX9_init 155 = .ok (.putfield 69, 3) := by decide +kernel
theorem dX9_init_158 : decode cX9_init 158 = .ok (.aload_n 0, 1) := by decide +kernel
theorem dX9_init_159 : decode cX9_init 159 = .ok (.bipush 16, 2) := by decide +kernel
theorem dX9_init_161 : decode cX9_init 161 = .ok (.newarray .int, 2) := by decide +kernel
theorem dX9_init_163 : decode cX9_init 163 = .ok (.putfield 72, 3) := by decide +kernel
theorem dX9_init_166 : decode cX9_init 166 = .ok (.aload_n 0, 1) := by decide +kernel
theorem dX9_init_167 : decode cX9_init 167 = .ok (.bipush 16, 2) := by decide +kernel
theorem dX9_init_169 : decode cX9_init 169 = .ok (.newarray .int, 2) := by decide +kernel
theorem dX9_init_171 : decode cX9_init 171 = .ok (.putfield 75, 3) := by decide +kernel
theorem dX9_init_174 : decode cX9_init 174 = .ok (.aload_n 0, 1) := by decide +kernel
theorem dX9_init_175 : decode cX9_init 175 = .ok (.sipush 128, 3) := by decide +kernel
theorem dX9_init_178 : decode cX9_init 178 = .ok (.newarray .int, 2) := by decide +kernel
theorem dX9_init_180 : decode cX9_init 180 = .ok (.putfield 78, 3) := by decide +kernel
theorem dX9_init_183 : decode cX9_init 183 = .ok (.return_, 1) := by decide +kernel
theorem dX9_thrown_0 : decode cX9_thrown 0 = .ok (.aload_n 0, 1) := by decide +kernel
theorem dX9_thrown_1 : decode cX9_thrown 1 = .ok (.getfield 81, 3) := by decide +kernel
theorem dX9_thrown_4 : decode cX9_thrown 4 = .ok (.ireturn, 1) := by decide +kernel
theorem dX9_fails_0 : decode cX9_fails 0 = .ok (.aload_n 0, 1) := by decide +kernel
theorem dX9_fails_1 : decode cX9_fails 1 = .ok (.iload_n 1, 1) := by decide +kernel
theorem dX9_fails_2 : decode cX9_fails 2 = .ok (.putfield 81, 3) := by decide +kernel
theorem dX9_fails_5 : decode cX9_fails 5 = .ok (.iconst 0, 1) := by decide +kernel
theorem dX9_fails_6 : decode cX9_fails 6 = .ok (.ireturn, 1) := by decide +kernel
theorem dX9_isBetween_0 : decode cX9_isBetween 0 = .ok (.iload_n 1, 1) := by decide +kernel
theorem dX9_isBetween_1 : decode cX9_isBetween 1 = .ok (.iload_n 0, 1) := by decide +kernel
theorem dX9_isBetween_2 : decode cX9_isBetween 2 = .ok (.if_icmp .gt 12, 3) := by decide +kernel
theorem dX9_isBetween_5 : decode cX9_isBetween 5 = .ok (.iload_n 0, 1) := by decide +kernel
theorem dX9_isBetween_6 : decode cX9_isBetween 6 = .ok (.iload_n 2, 1) := by decide +kernel
theorem dX9_isBetween_7 : decode cX9_isBetween 7 = .ok (.if_icmp .gt 7, 3) := by decide +kernel
theorem dX9_isBetween_10 : decode cX9_isBetween 10 = .ok (.iconst 1, 1) := by decide +kernel
theorem dX9_isBetween_11 : decode cX9_isBetween 11 = .ok (.goto 4, 3) := by decide +kernel
theorem dX9_isBetween_14 : decode cX9_isBetween 14 = .ok (.iconst 0, 1) := by decide +kernel
theorem dX9_isBetween_15 : decode cX9_isBetween 15 = .ok (.ireturn, 1) := by decide +kernel
theorem dX9_isStreet_0 : decode cX9_isStreet 0 = .ok (.iload_n 1, 1) := by decide +kernel
theorem dX9_isStreet_1 : decode cX9_isStreet 1 = .ok (.iconst 0, 1) := by decide +kernel
theorem dX9_isStreet_2 : decode cX9_isStreet 2 = .ok (.aload_n 0, 1) := by decide +kernel
theorem dX9_isStreet_3 : decode cX9_isStreet 3 = .ok (.getfield 84, 3) := by decide +kernel
theorem dX9_isStreet_6 : decode cX9_isStreet 6 = .ok (.iconst 1, 1) := by decide +kernel
theorem dX9_isStreet_7 : decode cX9_isStreet 7 = .ok (.isub, 1) := by decide +kernel
theorem dX9_isStreet_8 : decode cX9_isStreet 8 = .ok (.invokestatic 87, 3) := by decide +kernel
theorem dX9_isStreet_11 : decode cX9_isStreet 11 = .ok (.ireturn, 1) := by decide +kernel
theorem dX9_isHouse_0 : decode cX9_isHouse 0 = .ok (.iload_n 1, 1) := by decide +kernel
theorem dX9_isHouse_1 : decode cX9_isHouse 1 = .ok (.iconst 0, 1) := by decide +kernel
theorem dX9_isHouse_2 : decode cX9_isHouse 2 = .ok (.aload_n 0, 1) := by decide +kernel
theorem dX9_isHouse_3 : decode cX9_isHouse 3 = .ok (.getfield 91, 3) := by decide +kernel
theorem dX9_isHouse_6 : decode cX9_isHouse 6 = .ok (.iconst 1, 1) := by decide +kernel
theorem dX9_isHouse_7 : decode cX9_isHouse 7 = .ok (.isub, 1) := by decide +kernel
theorem dX9_isHouse_8 : decode cX9_isHouse 8 = .ok (.invokestatic 87, 3) := by decide +kernel
theorem dX9_isHouse_11 : decode cX9_isHouse 11 = .ok (.ireturn, 1) := by decide +kernel
theorem dX9_isRound_0 : decode cX9_isRound 0 = .ok (.iload_n 1, 1) := by decide +kernel
theorem dX9_isRound_1 : decode cX9_isRound 1 = .ok (.iconst 0, 1) := by decide +kernel
theorem dX9_isRound_2 : decode cX9_isRound 2 = .ok (.aload_n 0, 1) := by decide +kernel
theorem dX9_isRound_3 : decode cX9_isRound 3 = .ok (.getfield 94, 3) := by decide +kernel
theorem dX9_isRound_6 : decode cX9_isRound 6 = .ok (.iconst 1, 1) := by decide +kernel
theorem dX9_isRound_7 : decode cX9_isRound 7 = .ok (.isub, 1) := by decide +kernel
theorem dX9_isRound_8 : decode cX9_isRound 8 = .ok (.invokestatic 87, 3) := by decide +kernel
theorem dX9_isRound_11 : decode cX9_isRound 11 = .ok (.ireturn, 1) := by decide +kernel
theorem dX9_isPlace_0 : decode cX9_isPlace 0 = .ok (.iload_n 1, 1) := by decide +kernel
theorem dX9_isPlace_1 : decode cX9_isPlace 1 = .ok (.iconst 0, 1) := by decide +kernel
theorem dX9_isPlace_2 : decode cX9_isPlace 2 = .ok (.aload_n 0, 1) := by decide +kernel
theorem dX9_isPlace_3 : decode cX9_isPlace 3 = .ok (.getfield 53, 3) := by decide +kernel
theorem dX9_isPlace_6 : decode cX9_isPlace 6 = .ok (.iconst 1, 1) := by decide +kernel
theorem dX9_isPlace_7 : decode cX9_isPlace 7 = .ok (.isub, 1) := by decide +kernel
theorem dX9_isPlace_8 : decode cX9_isPlace 8 = .ok (.invokestatic 87, 3) := by decide +kernel
theorem dX9_isPlace_11 : decode cX9_isPlace 11 = .ok (.ireturn, 1) := by decide +kernel
theorem dX9_isParcel_0 : decode cX9_isParcel 0 = .ok (.iload_n 1, 1) := by decide +kernel
theorem dX9_isParcel_1 : decode cX9_isParcel 1 = .ok (.iconst 0, 1) := by decide +kernel
theorem dX9_isParcel_2 : decode cX9_isParcel 2 = .ok (.aload_n 0, 1) := by decide +kernel
theorem dX9_isParcel_3 : decode cX9_isParcel 3 = .ok (.getfield 97, 3) := by decide +kernel
theorem dX9_isParcel_6 : decode cX9_isParcel 6 = .ok (.iconst 1, 1) := by decide +kernel
theorem dX9_isParcel_7 : decode cX9_isParcel 7 = .ok (.isub, 1) := by decide +kernel
theorem dX9_isParcel_8 : decode cX9_isParcel 8 = .ok (.invokestatic 87, 3) := by decide +kernel
theorem dX9_isParcel_11 : decode cX9_isParcel 11 = .ok (.ireturn, 1) := by decide +kernel
theorem dX9_addPlace_0 : decode cX9_addPlace 0 = .ok (.aload_n 0, 1) := by decide +kernel
theorem dX9_addPlace_1 : decode cX9_addPlace 1 = .ok (.iconst 0, 1) := by decide +kernel
theorem dX9_addPlace_2 : decode cX9_addPlace 2 = .ok (.putfield 81, 3) := by decide +kernel
theorem dX9_addPlace_5 : decode cX9_addPlace 5 = .ok (.aload_n 0, 1) := by decide +kernel
theorem dX9_addPlace_6 : decode cX9_addPlace 6 = .ok (.getfield 53, 3) := by decide +kernel
theorem dX9_addPlace_9 : decode cX9_addPlace 9 = .ok (.bipush 10, 2) := by decide +kernel
theorem dX9_addPlace_11 : decode cX9_addPlace 11 = .ok (.if_icmp .ne 9, 3) := by decide +kernel
theorem dX9_addPlace_14 : decode cX9_addPlace 14 = .ok (.aload_n 0, 1) := by decide +kernel
theorem dX9_addPlace_15 : decode cX9_addPlace 15 = .ok (.iconst 1, 1) := by decide +kernel
theorem dX9_addPlace_16 : decode cX9_addPlace 16 = .ok (.invokevirtual 100, 3) := by decide +kernel
theorem dX9_addPlace_19 : decode cX9_addPlace 19 = .ok (.ireturn, 1) := by decide +kernel
theorem dX9_addPlace_20 : decode cX9_addPlace 20 = .ok (.aload_n 0, 1) := by decide +kernel
theorem dX9_addPlace_21 : decode cX9_addPlace 21 = .ok (.dup, 1) := by decide +kernel
theorem dX9_addPlace_22 : decode cX9_addPlace 22 = .ok (.getfield 53, 3) := by decide +kernel
theorem dX9_addPlace_25 : decode cX9_addPlace 25 = .ok (.iconst 1, 1) := by decide +kernel
theorem dX9_addPlace_26 : decode cX9_addPlace 26 = .ok (.iadd, 1) := by decide +kernel
theorem dX9_addPlace_27 : decode cX9_addPlace 27 = .ok (.putfield 53, 3) := by decide +kernel
theorem dX9_addPlace_30 : decode cX9_addPlace 30 = .ok (.aload_n 0, 1) := by decide +kernel
theorem dX9_addPlace_31 : decode cX9_addPlace 31 = .ok (.getfield 53, 3) := by decide +kernel
theorem dX9_addPlace_34 : decode cX9_addPlace 34 = .ok (.iconst 1, 1) := by decide +kernel
theorem dX9_addPlace_35 : decode cX9_addPlace 35 = .ok (.isub, 1) := by decide +kernel
theorem dX9_addPlace_36 : decode cX9_addPlace 36 = .ok (.ireturn, 1) := by decide +kernel
theorem dX9_addStreet_0 : decode cX9_addStreet 0 = .ok (.aload_n 0, 1) := by decide +kernel
theorem dX9_addStreet_1 : decode cX9_addStreet 1 = .ok (.iconst 0, 1) := by decide +kernel
theorem dX9_addStreet_2 : decode cX9_addStreet 2 = .ok (.putfield 81, 3) := by decide +kernel
theorem dX9_addStreet_5 : decode cX9_addStreet 5 = .ok (.aload_n 0, 1) := by decide +kernel
theorem dX9_addStreet_6 : decode cX9_addStreet 6 = .ok (.iload_n 1, 1) := by decide +kernel
theorem dX9_addStreet_7 : decode cX9_addStreet 7 = .ok (.invokevirtual 104, 3) := by decide +kernel
theorem dX9_addStreet_10 : decode cX9_addStreet 10 = .ok (.ifCond .eq 11, 3) := by decide +kernel
theorem dX9_addStreet_13 : decode cX9_addStreet 13 = .ok (.aload_n 0, 1) := by decide +kernel
theorem dX9_addStreet_14 : decode cX9_addStreet 14 = .ok (.iload_n 2, 1) := by decide +kernel
theorem dX9_addStreet_15 : decode cX9_addStreet 15 = .ok (.invokevirtual 104, 3) := by decide +kernel
theorem dX9_addStreet_18 : decode cX9_addStreet 18 = .ok (.ifCond .ne 9, 3) := by decide +kernel
theorem dX9_addStreet_21 : decode cX9_addStreet 21 = .ok (.aload_n 0, 1) := by decide +kernel
theorem dX9_addStreet_22 : decode cX9_addStreet 22 = .ok (.iconst 1, 1) := by decide +kernel
theorem dX9_addStreet_23 : decode cX9_addStreet 23 = .ok (.invokevirtual 100, 3) := by decide +kernel
theorem dX9_addStreet_26 : decode cX9_addStreet 26 = .ok (.ireturn, 1) := by decide +kernel
theorem dX9_addStreet_27 : decode cX9_addStreet 27 = .ok (.iload_n 1, 1) := by decide +kernel
theorem dX9_addStreet_28 : decode cX9_addStreet 28 = .ok (.iload_n 2, 1) := by decide +kernel
theorem dX9_addStreet_29 : decode cX9_addStreet 29 = .ok (.if_icmp .eq 13, 3) := by decide +kernel
theorem dX9_addStreet_32 : decode cX9_addStreet 32 = .ok (.iload_n 3, 1) := by decide +kernel
theorem dX9_addStreet_33 : decode cX9_addStreet 33 = .ok (.iconst 1, 1) := by decide +kernel
theorem dX9_addStreet_34 : decode cX9_addStreet 34 = .ok (.bipush 99, 2) := by decide +kernel
theorem dX9_addStreet_36 : decode cX9_addStreet 36 = .ok (.invokestatic 87, 3) := by decide +kernel
theorem dX9_addStreet_39 : decode cX9_addStreet 39 = .ok (.ifCond .ne 9, 3) := by decide +kernel
theorem dX9_addStreet_42 : decode cX9_addStreet 42 = .ok (.aload_n 0, 1) := by decide +kernel
theorem dX9_addStreet_43 : decode cX9_addStreet 43 = .ok (.iconst 2, 1) := by decide +kernel
theorem dX9_addStreet_44 : decode cX9_addStreet 44 = .ok (.invokevirtual 100, 3) := by decide +kernel
theorem dX9_addStreet_47 : decode cX9_addStreet 47 = .ok (.ireturn, 1) := by decide +kernel
theorem dX9_addStreet_48 : decode cX9_addStreet 48 = .ok (.aload_n 0, 1) := by decide +kernel
theorem dX9_addStreet_49 : decode cX9_addStreet 49 = .ok (.getfield 84, 3) := by decide +kernel
theorem dX9_addStreet_52 : decode cX9_addStreet 52 = .ok (.bipush 16, 2) := by decide +kernel
theorem dX9_addStreet_54 : decode cX9_addStreet 54 = .ok (.if_icmp .ne 9, 3) := by decide +kernel
theorem dX9_addStreet_57 : decode cX9_addStreet 57 = .ok (.aload_n 0, 1) := by decide +kernel
theorem dX9_addStreet_58 : decode cX9_addStreet 58 = .ok (.iconst 3, 1) := by decide +kernel
theorem dX9_addStreet_59 : decode cX9_addStreet 59 = .ok (.invokevirtual 100, 3) := by decide +kernel
theorem dX9_addStreet_62 : decode cX9_addStreet 62 = .ok (.ireturn, 1) := by decide +kernel
theorem dX9_addStreet_63 : decode cX9_addStreet 63 = .ok (.aload_n 0, 1) := by decide +kernel
theorem dX9_addStreet_64 : decode cX9_addStreet 64 = .ok (.getfield 9, 3) := by decide +kernel
theorem dX9_addStreet_67 : decode cX9_addStreet 67 = .ok (.aload_n 0, 1) := by decide +kernel
theorem dX9_addStreet_68 : decode cX9_addStreet 68 = .ok (.getfield 84, 3) := by decide +kernel
theorem dX9_addStreet_71 : decode cX9_addStreet 71 = .ok (.iload_n 1, 1) := by decide +kernel
theorem dX9_addStreet_72 : decode cX9_addStreet 72 = .ok (.iastore, 1) := by decide +kernel
theorem dX9_addStreet_73 : decode cX9_addStreet 73 = .ok (.aload_n 0, 1) := by decide +kernel
theorem dX9_addStreet_74 : decode cX9_addStreet 74 = .ok (.getfield 13, 3) := by decide +kernel
theorem dX9_addStreet_77 : decode cX9_addStreet 77 = .ok (.aload_n 0, 1) := by decide +kernel
theorem dX9_addStreet_78 : decode cX9_addStreet 78 = .ok (.getfield 84, 3) := by decide +kernel
theorem dX9_addStreet_81 : decode cX9_addStreet 81 = .ok (.iload_n 2, 1) := by decide +kernel
theorem dX9_addStreet_82 : decode cX9_addStreet 82 = .ok (.iastore, 1) := by decide +kernel
theorem dX9_addStreet_83 : decode cX9_addStreet 83 = .ok (.aload_n 0, 1) := by decide +kernel
theorem dX9_addStreet_84 : decode cX9_addStreet 84 = .ok (.getfield 16, 3) := by decide +kernel
theorem dX9_addStreet_87 : decode cX9_addStreet 87 = .ok (.aload_n 0, 1) := by decide +kernel
theorem dX9_addStreet_88 : decode cX9_addStreet 88 = .ok (.getfield 84, 3) := by decide +kernel
theorem dX9_addStreet_91 : decode cX9_addStreet 91 = .ok (.iload_n 3, 1) := by decide +kernel
theorem dX9_addStreet_92 : decode cX9_addStreet 92 = .ok (.iastore, 1) := by decide +kernel
theorem dX9_addStreet_93 : decode cX9_addStreet 93 = .ok (.aload_n 0, 1) := by decide +kernel
theorem dX9_addStreet_94 : decode cX9_addStreet 94 = .ok (.getfield 46, 3) := by decide +kernel
theorem dX9_addStreet_97 : decode cX9_addStreet 97 = .ok (.aload_n 0, 1) := by decide +kernel
theorem dX9_addStreet_98 : decode cX9_addStreet 98 = .ok (.getfield 84, 3) := by decide +kernel
theorem dX9_addStreet_101 : decode cX9_addStreet 101 = .ok (.iload 4, 2) := by decide +kernel
theorem dX9_addStreet_103 : decode cX9_addStreet 103 = .ok (.bastore, 1) := by decide +kernel
theorem dX9_addStreet_104 : decode cX9_addStreet 104 = .ok (.aload_n 0, 1) := by decide +kernel
theorem dX9_addStreet_105 : decode cX9_addStreet 105 = .ok (.getfield 19, 3) := by decide +kernel
theorem dX9_addStreet_108 : decode cX9_addStreet 108 = .ok (.aload_n 0, 1) := by decide +kernel
theorem dX9_addStreet_109 : decode cX9_addStreet 109 = .ok (.getfield 84, 3) := by decide +kernel
theorem dX9_addStreet_112 : decode cX9_addStreet 112 = .ok (.iconst (-1), 1) := by decide +kernel
theorem dX9_addStreet_113 : decode cX9_addStreet 113 = .ok (.iastore, 1) := by decide +kernel
theorem dX9_addStreet_114 : decode cX9_addStreet 114 = .ok (.aload_n 0, 1) := by decide +kernel
theorem dX9_addStreet_115 : decode cX9_addStreet 115 = .ok (.dup, 1) := by decide +kernel
theorem dX9_addStreet_116 : decode cX9_addStreet 116 = .ok (.getfield 84, 3) := by decide +kernel
theorem dX9_addStreet_119 : decode cX9_addStreet 119 = .ok (.iconst 1, 1) := by decide +kernel
theorem dX9_addStreet_120 : decode cX9_addStreet 120 = .ok (.iadd, 1) := by decide +kernel
theorem dX9_addStreet_121 : decode cX9_addStreet 121 = .ok (.putfield 84, 3) := by decide +kernel
theorem dX9_addStreet_124 : decode cX9_addStreet 124 = .ok (.aload_n 0, 1) := by decide +kernel
theorem dX9_addStreet_125 : decode cX9_addStreet 125 = .ok (.getfield 84, 3) := by decide +kernel
theorem dX9_addStreet_128 : decode cX9_addStreet 128 = .ok (.iconst 1, 1) := by decide +kernel
theorem dX9_addStreet_129 : decode cX9_addStreet 129 = .ok (.isub, 1) := by decide +kernel
theorem dX9_addStreet_130 : decode cX9_addStreet 130 = .ok (.ireturn, 1) := by decide +kernel
theorem dX9_addHouse_0 : decode cX9_addHouse 0 = .ok (.aload_n 0, 1) := by decide +kernel
theorem dX9_addHouse_1 : decode cX9_addHouse 1 = .ok (.iconst 0, 1) := by decide +kernel
theorem dX9_addHouse_2 : decode cX9_addHouse 2 = .ok (.putfield 81, 3) := by decide +kernel
theorem dX9_addHouse_5 : decode cX9_addHouse 5 = .ok (.aload_n 0, 1) := by decide +kernel
theorem dX9_addHouse_6 : decode cX9_addHouse 6 = .ok (.iload_n 1, 1) := by decide +kernel
theorem dX9_addHouse_7 : decode cX9_addHouse 7 = .ok (.invokevirtual 108, 3) := by decide +kernel
theorem dX9_addHouse_10 : decode cX9_addHouse 10 = .ok (.ifCond .ne 9, 3) := by decide +kernel
theorem dX9_addHouse_13 : decode cX9_addHouse 13 = .ok (.aload_n 0, 1) := by decide +kernel
theorem dX9_addHouse_14 : decode cX9_addHouse 14 = .ok (.iconst 1, 1) := by decide +kernel
theorem dX9_addHouse_15 : decode cX9_addHouse 15 = .ok (.invokevirtual 100, 3) := by decide +kernel
theorem dX9_addHouse_18 : decode cX9_addHouse 18 = .ok (.ireturn, 1) := by decide +kernel
theorem dX9_addHouse_19 : decode cX9_addHouse 19 = .ok (.iload_n 2, 1) := by decide +kernel
theorem dX9_addHouse_20 : decode cX9_addHouse 20 = .ok (.iconst 0, 1) := by decide +kernel
theorem dX9_addHouse_21 : decode cX9_addHouse 21 = .ok (.iconst 1, 1) := by decide +kernel
theorem dX9_addHouse_22 : decode cX9_addHouse 22 = .ok (.invokestatic 87, 3) := by decide +kernel
theorem dX9_addHouse_25 : decode cX9_addHouse 25 = .ok (.ifCond .eq 17, 3) := by decide +kernel
theorem dX9_addHouse_28 : decode cX9_addHouse 28 = .ok (.iload_n 3, 1) := by decide +kernel
theorem dX9_addHouse_29 : decode cX9_addHouse 29 = .ok (.iconst 0, 1) := by decide +kernel
theorem dX9_addHouse_30 : decode cX9_addHouse 30 = .ok (.aload_n 0, 1) := by decide +kernel
theorem dX9_addHouse_31 : decode cX9_addHouse 31 = .ok (.getfield 16, 3) := by decide +kernel
theorem dX9_addHouse_34 : decode cX9_addHouse 34 = .ok (.iload_n 1, 1) := by decide +kernel
theorem dX9_addHouse_35 : decode cX9_addHouse 35 = .ok (.iaload, 1) := by decide +kernel
theorem dX9_addHouse_36 : decode cX9_addHouse 36 = .ok (.invokestatic 87, 3) := by decide +kernel
theorem dX9_addHouse_39 : decode cX9_addHouse 39 = .ok (.ifCond .ne 9, 3) := by decide +kernel
theorem dX9_addHouse_42 : decode cX9_addHouse 42 = .ok (.aload_n 0, 1) := by decide +kernel
theorem dX9_addHouse_43 : decode cX9_addHouse 43 = .ok (.iconst 2, 1) := by decide +kernel
theorem dX9_addHouse_44 : decode cX9_addHouse 44 = .ok (.invokevirtual 100, 3) := by decide +kernel
theorem dX9_addHouse_47 : decode cX9_addHouse 47 = .ok (.ireturn, 1) := by decide +kernel
theorem dX9_addHouse_48 : decode cX9_addHouse 48 = .ok (.aload_n 0, 1) := by decide +kernel
theorem dX9_addHouse_49 : decode cX9_addHouse 49 = .ok (.getfield 91, 3) := by decide +kernel
theorem dX9_addHouse_52 : decode cX9_addHouse 52 = .ok (.bipush 30, 2) := by decide +kernel
theorem dX9_addHouse_54 : decode cX9_addHouse 54 = .ok (.if_icmp .ne 9, 3) := by decide +kernel
theorem dX9_addHouse_57 : decode cX9_addHouse 57 = .ok (.aload_n 0, 1) := by decide +kernel
theorem dX9_addHouse_58 : decode cX9_addHouse 58 = .ok (.iconst 3, 1) := by decide +kernel
theorem dX9_addHouse_59 : decode cX9_addHouse 59 = .ok (.invokevirtual 100, 3) := by decide +kernel
theorem dX9_addHouse_62 : decode cX9_addHouse 62 = .ok (.ireturn, 1) := by decide +kernel
theorem dX9_addHouse_63 : decode cX9_addHouse 63 = .ok (.aload_n 0, 1) := by decide +kernel
theorem dX9_addHouse_64 : decode cX9_addHouse 64 = .ok (.getfield 22, 3) := by decide +kernel
theorem dX9_addHouse_67 : decode cX9_addHouse 67 = .ok (.aload_n 0, 1) := by decide +kernel
theorem dX9_addHouse_68 : decode cX9_addHouse 68 = .ok (.getfield 91, 3) := by decide +kernel
theorem dX9_addHouse_71 : decode cX9_addHouse 71 = .ok (.iload_n 1, 1) := by decide +kernel
theorem dX9_addHouse_72 : decode cX9_addHouse 72 = .ok (.iastore, 1) := by decide +kernel
theorem dX9_addHouse_73 : decode cX9_addHouse 73 = .ok (.aload_n 0, 1) := by decide +kernel
theorem dX9_addHouse_74 : decode cX9_addHouse 74 = .ok (.getfield 25, 3) := by decide +kernel
theorem dX9_addHouse_77 : decode cX9_addHouse 77 = .ok (.aload_n 0, 1) := by decide +kernel
theorem dX9_addHouse_78 : decode cX9_addHouse 78 = .ok (.getfield 91, 3) := by decide +kernel
theorem dX9_addHouse_81 : decode cX9_addHouse 81 = .ok (.iload_n 2, 1) := by decide +kernel
theorem dX9_addHouse_82 : decode cX9_addHouse 82 = .ok (.iastore, 1) := by decide +kernel
theorem dX9_addHouse_83 : decode cX9_addHouse 83 = .ok (.aload_n 0, 1) := by decide +kernel
theorem dX9_addHouse_84 : decode cX9_addHouse 84 = .ok (.getfield 28, 3) := by decide +kernel
theorem dX9_addHouse_87 : decode cX9_addHouse 87 = .ok (.aload_n 0, 1) := by decide +kernel
theorem dX9_addHouse_88 : decode cX9_addHouse 88 = .ok (.getfield 91, 3) := by decide +kernel
theorem dX9_addHouse_91 : decode cX9_addHouse 91 = .ok (.iload_n 3, 1) := by decide +kernel
theorem dX9_addHouse_92 : decode cX9_addHouse 92 = .ok (.iastore, 1) := by decide +kernel
theorem dX9_addHouse_93 : decode cX9_addHouse 93 = .ok (.aload_n 0, 1) := by decide +kernel
theorem dX9_addHouse_94 : decode cX9_addHouse 94 = .ok (.dup, 1) := by decide +kernel
theorem dX9_addHouse_95 : decode cX9_addHouse 95 = .ok (.getfield 91, 3) := by decide +kernel
theorem dX9_addHouse_98 : decode cX9_addHouse 98 = .ok (.iconst 1, 1) := by decide +kernel
theorem dX9_addHouse_99 : decode cX9_addHouse 99 = .ok (.iadd, 1) := by decide +kernel
theorem dX9_addHouse_100 : decode cX9_addHouse 100 = .ok (.putfield 91, 3) := by decide +kernel
theorem dX9_addHouse_103 : decode cX9_addHouse 103 = .ok (.aload_n 0, 1) := by decide +kernel
theorem dX9_addHouse_104 : decode cX9_addHouse 104 = .ok (.getfield 91, 3) := by decide +kernel
theorem dX9_addHouse_107 : decode cX9_addHouse 107 = .ok (.iconst 1, 1) := by decide +kernel
theorem dX9_addHouse_108 : decode cX9_addHouse 108 = .ok (.isub, 1) := by decide +kernel
theorem dX9_addHouse_109 : decode cX9_addHouse 109 = .ok (.ireturn, 1) := by decide +kernel
theorem dX9_addRound_0 : decode cX9_addRound 0 = .ok (.aload_n 0, 1) := by decide +kernel
theorem dX9_addRound_1 : decode cX9_addRound 1 = .ok (.iconst 0, 1) := by decide +kernel
theorem dX9_addRound_2 : decode cX9_addRound 2 = .ok (.putfield 81, 3) := by decide +kernel
theorem dX9_addRound_5 : decode cX9_addRound 5 = .ok (.iload_n 1, 1) := by decide +kernel
theorem dX9_addRound_6 : decode cX9_addRound 6 = .ok (.iconst 1, 1) := by decide +kernel
theorem dX9_addRound_7 : decode cX9_addRound 7 = .ok (.sipush 999, 3) := by decide +kernel
theorem dX9_addRound_10 : decode cX9_addRound 10 = .ok (.invokestatic 87, 3) := by decide +kernel
theorem dX9_addRound_13 : decode cX9_addRound 13 = .ok (.ifCond .ne 9, 3) := by decide +kernel
theorem dX9_addRound_16 : decode cX9_addRound 16 = .ok (.aload_n 0, 1) := by decide +kernel
theorem dX9_addRound_17 : decode cX9_addRound 17 = .ok (.iconst 1, 1) := by decide +kernel
theorem dX9_addRound_18 : decode cX9_addRound 18 = .ok (.invokevirtual 100, 3) := by decide +kernel
theorem dX9_addRound_21 : decode cX9_addRound 21 = .ok (.ireturn, 1) := by decide +kernel
theorem dX9_addRound_22 : decode cX9_addRound 22 = .ok (.aload_n 0, 1) := by decide +kernel
theorem dX9_addRound_23 : decode cX9_addRound 23 = .ok (.getfield 94, 3) := by decide +kernel
theorem dX9_addRound_26 : decode cX9_addRound 26 = .ok (.iconst 4, 1) := by decide +kernel
theorem dX9_addRound_27 : decode cX9_addRound 27 = .ok (.if_icmp .ne 9, 3) := by decide +kernel
theorem dX9_addRound_30 : decode cX9_addRound 30 = .ok (.aload_n 0, 1) := by decide +kernel
theorem dX9_addRound_31 : decode cX9_addRound 31 = .ok (.iconst 2, 1) := by decide +kernel
theorem dX9_addRound_32 : decode cX9_addRound 32 = .ok (.invokevirtual 100, 3) := by decide +kernel
theorem dX9_addRound_35 : decode cX9_addRound 35 = .ok (.ireturn, 1) := by decide +kernel
theorem dX9_addRound_36 : decode cX9_addRound 36 = .ok (.aload_n 0, 1) := by decide +kernel
theorem dX9_addRound_37 : decode cX9_addRound 37 = .ok (.getfield 34, 3) := by decide +kernel
theorem dX9_addRound_40 : decode cX9_addRound 40 = .ok (.aload_n 0, 1) := by decide +kernel
theorem dX9_addRound_41 : decode cX9_addRound 41 = .ok (.getfield 94, 3) := by decide +kernel
theorem dX9_addRound_44 : decode cX9_addRound 44 = .ok (.iload_n 1, 1) := by decide +kernel
theorem dX9_addRound_45 : decode cX9_addRound 45 = .ok (.iastore, 1) := by decide +kernel
theorem dX9_addRound_46 : decode cX9_addRound 46 = .ok (.aload_n 0, 1) := by decide +kernel
theorem dX9_addRound_47 : decode cX9_addRound 47 = .ok (.dup, 1) := by decide +kernel
theorem dX9_addRound_48 : decode cX9_addRound 48 = .ok (.getfield 94, 3) := by decide +kernel
theorem dX9_addRound_51 : decode cX9_addRound 51 = .ok (.iconst 1, 1) := by decide +kernel
theorem dX9_addRound_52 : decode cX9_addRound 52 = .ok (.iadd, 1) := by decide +kernel
theorem dX9_addRound_53 : decode cX9_addRound 53 = .ok (.putfield 94, 3) := by decide +kernel
theorem dX9_addRound_56 : decode cX9_addRound 56 = .ok (.aload_n 0, 1) := by decide +kernel
theorem dX9_addRound_57 : decode cX9_addRound 57 = .ok (.getfield 94, 3) := by decide +kernel
theorem dX9_addRound_60 : decode cX9_addRound 60 = .ok (.iconst 1, 1) := by decide +kernel
theorem dX9_addRound_61 : decode cX9_addRound 61 = .ok (.isub, 1) := by decide +kernel
theorem dX9_addRound_62 : decode cX9_addRound 62 = .ok (.ireturn, 1) := by decide +kernel
theorem dX9_assign_0 : decode cX9_assign 0 = .ok (.aload_n 0, 1) := by decide +kernel
theorem dX9_assign_1 : decode cX9_assign 1 = .ok (.iconst 0, 1) := by decide +kernel
theorem dX9_assign_2 : decode cX9_assign 2 = .ok (.putfield 81, 3) := by decide +kernel
theorem dX9_assign_5 : decode cX9_assign 5 = .ok (.aload_n 0, 1) := by decide +kernel
theorem dX9_assign_6 : decode cX9_assign 6 = .ok (.iload_n 1, 1) := by decide +kernel
theorem dX9_assign_7 : decode cX9_assign 7 = .ok (.invokevirtual 108, 3) := by decide +kernel
theorem dX9_assign_10 : decode cX9_assign 10 = .ok (.ifCond .eq 11, 3) := by decide +kernel
theorem dX9_assign_13 : decode cX9_assign 13 = .ok (.aload_n 0, 1) := by decide +kernel
theorem dX9_assign_14 : decode cX9_assign 14 = .ok (.iload_n 2, 1) := by decide +kernel
theorem dX9_assign_15 : decode cX9_assign 15 = .ok (.invokevirtual 111, 3) := by decide +kernel
theorem dX9_assign_18 : decode cX9_assign 18 = .ok (.ifCond .ne 9, 3) := by decide +kernel
theorem dX9_assign_21 : decode cX9_assign 21 = .ok (.aload_n 0, 1) := by decide +kernel
theorem dX9_assign_22 : decode cX9_assign 22 = .ok (.iconst 1, 1) := by decide +kernel
theorem dX9_assign_23 : decode cX9_assign 23 = .ok (.invokevirtual 100, 3) := by decide +kernel
theorem dX9_assign_26 : decode cX9_assign 26 = .ok (.ireturn, 1) := by decide +kernel
theorem dX9_assign_27 : decode cX9_assign 27 = .ok (.aload_n 0, 1) := by decide +kernel
theorem dX9_assign_28 : decode cX9_assign 28 = .ok (.getfield 19, 3) := by decide +kernel
theorem dX9_assign_31 : decode cX9_assign 31 = .ok (.iload_n 1, 1) := by decide +kernel
theorem dX9_assign_32 : decode cX9_assign 32 = .ok (.iaload, 1) := by decide +kernel
theorem dX9_assign_33 : decode cX9_assign 33 = .ok (.istore_n 3, 1) := by decide +kernel
theorem dX9_assign_34 : decode cX9_assign 34 = .ok (.aload_n 0, 1) := by decide +kernel
theorem dX9_assign_35 : decode cX9_assign 35 = .ok (.getfield 19, 3) := by decide +kernel
theorem dX9_assign_38 : decode cX9_assign 38 = .ok (.iload_n 1, 1) := by decide +kernel
theorem dX9_assign_39 : decode cX9_assign 39 = .ok (.iload_n 2, 1) := by decide +kernel
theorem dX9_assign_40 : decode cX9_assign 40 = .ok (.iastore, 1) := by decide +kernel
theorem dX9_assign_41 : decode cX9_assign 41 = .ok (.iload_n 3, 1) := by decide +kernel
theorem dX9_assign_42 : decode cX9_assign 42 = .ok (.ireturn, 1) := by decide +kernel
theorem dX9_setBag_0 : decode cX9_setBag 0 = .ok (.aload_n 0, 1) := by decide +kernel
theorem dX9_setBag_1 : decode cX9_setBag 1 = .ok (.iconst 0, 1) := by decide +kernel
theorem dX9_setBag_2 : decode cX9_setBag 2 = .ok (.putfield 81, 3) := by decide +kernel
theorem dX9_setBag_5 : decode cX9_setBag 5 = .ok (.iload_n 1, 1) := by decide +kernel
theorem dX9_setBag_6 : decode cX9_setBag 6 = .ok (.iconst 0, 1) := by decide +kernel
theorem dX9_setBag_7 : decode cX9_setBag 7 = .ok (.bipush 99, 2) := by decide +kernel
theorem dX9_setBag_9 : decode cX9_setBag 9 = .ok (.invokestatic 87, 3) := by decide +kernel
theorem dX9_setBag_12 : decode cX9_setBag 12 = .ok (.ifCond .ne 9, 3) := by decide +kernel
theorem dX9_setBag_15 : decode cX9_setBag 15 = .ok (.aload_n 0, 1) := by decide +kernel
theorem dX9_setBag_16 : decode cX9_setBag 16 = .ok (.iconst 1, 1) := by decide +kernel
theorem dX9_setBag_17 : decode cX9_setBag 17 = .ok (.invokevirtual 100, 3) := by decide +kernel
theorem dX9_setBag_20 : decode cX9_setBag 20 = .ok (.ireturn, 1) := by decide +kernel
theorem dX9_setBag_21 : decode cX9_setBag 21 = .ok (.aload_n 0, 1) := by decide +kernel
theorem dX9_setBag_22 : decode cX9_setBag 22 = .ok (.getfield 57, 3) := by decide +kernel
theorem dX9_setBag_25 : decode cX9_setBag 25 = .ok (.istore_n 2, 1) := by decide +kernel
theorem dX9_setBag_26 : decode cX9_setBag 26 = .ok (.aload_n 0, 1) := by decide +kernel
theorem dX9_setBag_27 : decode cX9_setBag 27 = .ok (.iload_n 1, 1) := by decide +kernel
theorem dX9_setBag_28 : decode cX9_setBag 28 = .ok (.putfield 57, 3) := by decide +kernel
theorem dX9_setBag_31 : decode cX9_setBag 31 = .ok (.iload_n 2, 1) := by decide +kernel
theorem dX9_setBag_32 : decode cX9_setBag 32 = .ok (.ireturn, 1) := by decide +kernel
theorem dX9_letters_0 : decode cX9_letters 0 = .ok (.aload_n 0, 1) := by decide +kernel
theorem dX9_letters_1 : decode cX9_letters 1 = .ok (.iconst 0, 1) := by decide +kernel
theorem dX9_letters_2 : decode cX9_letters 2 = .ok (.putfield 81, 3) := by decide +kernel
theorem dX9_letters_5 : decode cX9_letters 5 = .ok (.aload_n 0, 1) := by decide +kernel
theorem dX9_letters_6 : decode cX9_letters 6 = .ok (.iload_n 1, 1) := by decide +kernel
theorem dX9_letters_7 : decode cX9_letters 7 = .ok (.invokevirtual 114, 3) := by decide +kernel
theorem dX9_letters_10 : decode cX9_letters 10 = .ok (.ifCond .ne 9, 3) := by decide +kernel
theorem dX9_letters_13 : decode cX9_letters 13 = .ok (.aload_n 0, 1) := by decide +kernel
theorem dX9_letters_14 : decode cX9_letters 14 = .ok (.iconst 1, 1) := by decide +kernel
theorem dX9_letters_15 : decode cX9_letters 15 = .ok (.invokevirtual 100, 3) := by decide +kernel
theorem dX9_letters_18 : decode cX9_letters 18 = .ok (.ireturn, 1) := by decide +kernel
theorem dX9_letters_19 : decode cX9_letters 19 = .ok (.iload_n 2, 1) := by decide +kernel
theorem dX9_letters_20 : decode cX9_letters 20 = .ok (.iconst 1, 1) := by decide +kernel
theorem dX9_letters_21 : decode cX9_letters 21 = .ok (.bipush 20, 2) := by decide +kernel
theorem dX9_letters_23 : decode cX9_letters 23 = .ok (.invokestatic 87, 3) := by decide +kernel
theorem dX9_letters_26 : decode cX9_letters 26 = .ok (.ifCond .ne 9, 3) := by decide +kernel
theorem dX9_letters_29 : decode cX9_letters 29 = .ok (.aload_n 0, 1) := by decide +kernel
theorem dX9_letters_30 : decode cX9_letters 30 = .ok (.iconst 2, 1) := by decide +kernel
theorem dX9_letters_31 : decode cX9_letters 31 = .ok (.invokevirtual 100, 3) := by decide +kernel
theorem dX9_letters_34 : decode cX9_letters 34 = .ok (.ireturn, 1) := by decide +kernel
theorem dX9_letters_35 : decode cX9_letters 35 = .ok (.aload_n 0, 1) := by decide +kernel
theorem dX9_letters_36 : decode cX9_letters 36 = .ok (.getfield 31, 3) := by decide +kernel
theorem dX9_letters_39 : decode cX9_letters 39 = .ok (.iload_n 1, 1) := by decide +kernel
theorem dX9_letters_40 : decode cX9_letters 40 = .ok (.iaload, 1) := by decide +kernel
theorem dX9_letters_41 : decode cX9_letters 41 = .ok (.iload_n 2, 1) := by decide +kernel
theorem dX9_letters_42 : decode cX9_letters 42 = .ok (.iadd, 1) := by decide +kernel
theorem dX9_letters_43 : decode cX9_letters 43 = .ok (.bipush 99, 2) := by decide +kernel
theorem dX9_letters_45 : decode cX9_letters 45 = .ok (.if_icmp .le 9, 3) := by decide +kernel
theorem dX9_letters_48 : decode cX9_letters 48 = .ok (.aload_n 0, 1) := by decide +kernel
theorem dX9_letters_49 : decode cX9_letters 49 = .ok (.iconst 3, 1) := by decide +kernel
theorem dX9_letters_50 : decode cX9_letters 50 = .ok (.invokevirtual 100, 3) := by decide +kernel
theorem dX9_letters_53 : decode cX9_letters 53 = .ok (.ireturn, 1) := by decide +kernel
theorem dX9_letters_54 : decode cX9_letters 54 = .ok (.aload_n 0, 1) := by decide +kernel
theorem dX9_letters_55 : decode cX9_letters 55 = .ok (.getfield 31, 3) := by decide +kernel
theorem dX9_letters_58 : decode cX9_letters 58 = .ok (.iload_n 1, 1) := by decide +kernel
theorem dX9_letters_59 : decode cX9_letters 59 = .ok (.dup2, 1) := by decide +kernel
theorem dX9_letters_60 : decode cX9_letters 60 = .ok (.iaload, 1) := by decide +kernel
theorem dX9_letters_61 : decode cX9_letters 61 = .ok (.iload_n 2, 1) := by decide +kernel
theorem dX9_letters_62 : decode cX9_letters 62 = .ok (.iadd, 1) := by decide +kernel
theorem dX9_letters_63 : decode cX9_letters 63 = .ok (.iastore, 1) := by decide +kernel
theorem dX9_letters_64 : decode cX9_letters 64 = .ok (.aload_n 0, 1) := by decide +kernel
theorem dX9_letters_65 : decode cX9_letters 65 = .ok (.getfield 31, 3) := by decide +kernel
theorem dX9_letters_68 : decode cX9_letters 68 = .ok (.iload_n 1, 1) := by decide +kernel
theorem dX9_letters_69 : decode cX9_letters 69 = .ok (.iaload, 1) := by decide +kernel
theorem dX9_letters_70 : decode cX9_letters 70 = .ok (.ireturn, 1) := by decide +kernel
theorem dX9_parcel_0 : decode cX9_parcel 0 = .ok (.aload_n 0, 1) := by decide +kernel
theorem dX9_parcel_1 : decode cX9_parcel 1 = .ok (.iconst 0, 1) := by decide +kernel
theorem dX9_parcel_2 : decode cX9_parcel 2 = .ok (.putfield 81, 3) := by decide +kernel
theorem dX9_parcel_5 : decode cX9_parcel 5 = .ok (.aload_n 0, 1) := by decide +kernel
theorem dX9_parcel_6 : decode cX9_parcel 6 = .ok (.iload_n 1, 1) := by decide +kernel
theorem dX9_parcel_7 : decode cX9_parcel 7 = .ok (.invokevirtual 114, 3) := by decide +kernel
theorem dX9_parcel_10 : decode cX9_parcel 10 = .ok (.ifCond .ne 9, 3) := by decide +kernel
theorem dX9_parcel_13 : decode cX9_parcel 13 = .ok (.aload_n 0, 1) := by decide +kernel
theorem dX9_parcel_14 : decode cX9_parcel 14 = .ok (.iconst 1, 1) := by decide +kernel
theorem dX9_parcel_15 : decode cX9_parcel 15 = .ok (.invokevirtual 100, 3) := by decide +kernel
theorem dX9_parcel_18 : decode cX9_parcel 18 = .ok (.ireturn, 1) := by decide +kernel
theorem dX9_parcel_19 : decode cX9_parcel 19 = .ok (.iload_n 2, 1) := by decide +kernel
theorem dX9_parcel_20 : decode cX9_parcel 20 = .ok (.iconst 1, 1) := by decide +kernel
theorem dX9_parcel_21 : decode cX9_parcel 21 = .ok (.bipush 99, 2) := by decide +kernel
theorem dX9_parcel_23 : decode cX9_parcel 23 = .ok (.invokestatic 87, 3) := by decide +kernel
theorem dX9_parcel_26 : decode cX9_parcel 26 = .ok (.ifCond .eq 14, 3) := by decide +kernel
theorem dX9_parcel_29 : decode cX9_parcel 29 = .ok (.iload_n 3, 1) := by decide +kernel
theorem dX9_parcel_30 : decode cX9_parcel 30 = .ok (.iconst 1, 1) := by decide +kernel
theorem dX9_parcel_31 : decode cX9_parcel 31 = .ok (.sipush 999, 3) := by decide +kernel
theorem dX9_parcel_34 : decode cX9_parcel 34 = .ok (.invokestatic 87, 3) := by decide +kernel
theorem dX9_parcel_37 : decode cX9_parcel 37 = .ok (.ifCond .ne 9, 3) := by decide +kernel
theorem dX9_parcel_40 : decode cX9_parcel 40 = .ok (.aload_n 0, 1) := by decide +kernel
theorem dX9_parcel_41 : decode cX9_parcel 41 = .ok (.iconst 2, 1) := by decide +kernel
theorem dX9_parcel_42 : decode cX9_parcel 42 = .ok (.invokevirtual 100, 3) := by decide +kernel
theorem dX9_parcel_45 : decode cX9_parcel 45 = .ok (.ireturn, 1) := by decide +kernel
theorem dX9_parcel_46 : decode cX9_parcel 46 = .ok (.aload_n 0, 1) := by decide +kernel
theorem dX9_parcel_47 : decode cX9_parcel 47 = .ok (.getfield 97, 3) := by decide +kernel
theorem dX9_parcel_50 : decode cX9_parcel 50 = .ok (.bipush 20, 2) := by decide +kernel
theorem dX9_parcel_52 : decode cX9_parcel 52 = .ok (.if_icmp .ne 9, 3) := by decide +kernel
theorem dX9_parcel_55 : decode cX9_parcel 55 = .ok (.aload_n 0, 1) := by decide +kernel
theorem dX9_parcel_56 : decode cX9_parcel 56 = .ok (.iconst 3, 1) := by decide +kernel
theorem dX9_parcel_57 : decode cX9_parcel 57 = .ok (.invokevirtual 100, 3) := by decide +kernel
theorem dX9_parcel_60 : decode cX9_parcel 60 = .ok (.ireturn, 1) := by decide +kernel
theorem dX9_parcel_61 : decode cX9_parcel 61 = .ok (.aload_n 0, 1) := by decide +kernel
theorem dX9_parcel_62 : decode cX9_parcel 62 = .ok (.getfield 37, 3) := by decide +kernel
theorem dX9_parcel_65 : decode cX9_parcel 65 = .ok (.aload_n 0, 1) := by decide +kernel
theorem dX9_parcel_66 : decode cX9_parcel 66 = .ok (.getfield 97, 3) := by decide +kernel
theorem dX9_parcel_69 : decode cX9_parcel 69 = .ok (.iload_n 1, 1) := by decide +kernel
theorem dX9_parcel_70 : decode cX9_parcel 70 = .ok (.iastore, 1) := by decide +kernel
theorem dX9_parcel_71 : decode cX9_parcel 71 = .ok (.aload_n 0, 1) := by decide +kernel
theorem dX9_parcel_72 : decode cX9_parcel 72 = .ok (.getfield 40, 3) := by decide +kernel
theorem dX9_parcel_75 : decode cX9_parcel 75 = .ok (.aload_n 0, 1) := by decide +kernel
theorem dX9_parcel_76 : decode cX9_parcel 76 = .ok (.getfield 97, 3) := by decide +kernel
theorem dX9_parcel_79 : decode cX9_parcel 79 = .ok (.iload_n 2, 1) := by decide +kernel
theorem dX9_parcel_80 : decode cX9_parcel 80 = .ok (.iastore, 1) := by decide +kernel
theorem dX9_parcel_81 : decode cX9_parcel 81 = .ok (.aload_n 0, 1) := by decide +kernel
theorem dX9_parcel_82 : decode cX9_parcel 82 = .ok (.getfield 43, 3) := by decide +kernel
theorem dX9_parcel_85 : decode cX9_parcel 85 = .ok (.aload_n 0, 1) := by decide +kernel
theorem dX9_parcel_86 : decode cX9_parcel 86 = .ok (.getfield 97, 3) := by decide +kernel
theorem dX9_parcel_89 : decode cX9_parcel 89 = .ok (.iload_n 3, 1) := by decide +kernel
theorem dX9_parcel_90 : decode cX9_parcel 90 = .ok (.iastore, 1) := by decide +kernel
theorem dX9_parcel_91 : decode cX9_parcel 91 = .ok (.aload_n 0, 1) := by decide +kernel
theorem dX9_parcel_92 : decode cX9_parcel 92 = .ok (.getfield 50, 3) := by decide +kernel
theorem dX9_parcel_95 : decode cX9_parcel 95 = .ok (.aload_n 0, 1) := by decide +kernel
theorem dX9_parcel_96 : decode cX9_parcel 96 = .ok (.getfield 97, 3) := by decide +kernel
theorem dX9_parcel_99 : decode cX9_parcel 99 = .ok (.iconst 0, 1) := by decide +kernel
theorem dX9_parcel_100 : decode cX9_parcel 100 = .ok (.bastore, 1) := by decide +kernel
theorem dX9_parcel_101 : decode cX9_parcel 101 = .ok (.aload_n 0, 1) := by decide +kernel
theorem dX9_parcel_102 : decode cX9_parcel 102 = .ok (.dup, 1) := by decide +kernel
theorem dX9_parcel_103 : decode cX9_parcel 103 = .ok (.getfield 97, 3) := by decide +kernel
theorem dX9_parcel_106 : decode cX9_parcel 106 = .ok (.iconst 1, 1) := by decide +kernel
theorem dX9_parcel_107 : decode cX9_parcel 107 = .ok (.iadd, 1) := by decide +kernel
theorem dX9_parcel_108 : decode cX9_parcel 108 = .ok (.putfield 97, 3) := by decide +kernel
theorem dX9_parcel_111 : decode cX9_parcel 111 = .ok (.aload_n 0, 1) := by decide +kernel
theorem dX9_parcel_112 : decode cX9_parcel 112 = .ok (.getfield 97, 3) := by decide +kernel
theorem dX9_parcel_115 : decode cX9_parcel 115 = .ok (.iconst 1, 1) := by decide +kernel
theorem dX9_parcel_116 : decode cX9_parcel 116 = .ok (.isub, 1) := by decide +kernel
theorem dX9_parcel_117 : decode cX9_parcel 117 = .ok (.ireturn, 1) := by decide +kernel
theorem dX9_isLight_0 : decode cX9_isLight 0 = .ok (.aload_n 0, 1) := by decide +kernel
theorem dX9_isLight_1 : decode cX9_isLight 1 = .ok (.getfield 40, 3) := by decide +kernel
theorem dX9_isLight_4 : decode cX9_isLight 4 = .ok (.iload_n 1, 1) := by decide +kernel
theorem dX9_isLight_5 : decode cX9_isLight 5 = .ok (.iaload, 1) := by decide +kernel
theorem dX9_isLight_6 : decode cX9_isLight 6 = .ok (.aload_n 0, 1) := by decide +kernel
theorem dX9_isLight_7 : decode cX9_isLight 7 = .ok (.getfield 57, 3) := by decide +kernel
theorem dX9_isLight_10 : decode cX9_isLight 10 = .ok (.if_icmp .gt 16, 3) := by decide +kernel
theorem dX9_isLight_13 : decode cX9_isLight 13 = .ok (.aload_n 0, 1) := by decide +kernel
theorem dX9_isLight_14 : decode cX9_isLight 14 = .ok (.getfield 50, 3) := by decide +kernel
theorem dX9_isLight_17 : decode cX9_isLight 17 = .ok (.iload_n 1, 1) := by decide +kernel
theorem dX9_isLight_18 : decode cX9_isLight 18 = .ok (.baload, 1) := by decide +kernel
theorem dX9_isLight_19 : decode cX9_isLight 19 = .ok (.ifCond .ne 7, 3) := by decide +kernel
theorem dX9_isLight_22 : decode cX9_isLight 22 = .ok (.iconst 1, 1) := by decide +kernel
theorem dX9_isLight_23 : decode cX9_isLight 23 = .ok (.goto 4, 3) := by decide +kernel
theorem dX9_isLight_26 : decode cX9_isLight 26 = .ok (.iconst 0, 1) := by decide +kernel
theorem dX9_isLight_27 : decode cX9_isLight 27 = .ok (.ireturn, 1) := by decide +kernel
theorem dX9_lights_0 : decode cX9_lights 0 = .ok (.iconst 0, 1) := by decide +kernel
theorem dX9_lights_1 : decode cX9_lights 1 = .ok (.istore_n 2, 1) := by decide +kernel
theorem dX9_lights_2 : decode cX9_lights 2 = .ok (.iconst 0, 1) := by decide +kernel
theorem dX9_lights_3 : decode cX9_lights 3 = .ok (.istore_n 3, 1) := by decide +kernel
theorem dX9_lights_4 : decode cX9_lights 4 = .ok (.iload_n 3, 1) := by decide +kernel
theorem dX9_lights_5 : decode cX9_lights 5 = .ok (.aload_n 0, 1) := by decide +kernel
theorem dX9_lights_6 : decode cX9_lights 6 = .ok (.getfield 97, 3) := by decide +kernel
theorem dX9_lights_9 : decode cX9_lights 9 = .ok (.if_icmp .ge 35, 3) := by decide +kernel
theorem dX9_lights_12 : decode cX9_lights 12 = .ok (.iload_n 2, 1) := by decide +kernel
theorem dX9_lights_13 : decode cX9_lights 13 = .ok (.aload_n 0, 1) := by decide +kernel
theorem dX9_lights_14 : decode cX9_lights 14 = .ok (.getfield 37, 3) := by decide +kernel
theorem dX9_lights_17 : decode cX9_lights 17 = .ok (.iload_n 3, 1) := by decide +kernel
theorem dX9_lights_18 : decode cX9_lights 18 = .ok (.iaload, 1) := by decide +kernel
theorem dX9_lights_19 : decode cX9_lights 19 = .ok (.iload_n 1, 1) := by decide +kernel
theorem dX9_lights_20 : decode cX9_lights 20 = .ok (.if_icmp .ne 15, 3) := by decide +kernel
theorem dX9_lights_23 : decode cX9_lights 23 = .ok (.aload_n 0, 1) := by decide +kernel
theorem dX9_lights_24 : decode cX9_lights 24 = .ok (.iload_n 3, 1) := by decide +kernel
theorem dX9_lights_25 : decode cX9_lights 25 = .ok (.invokevirtual 117, 3) := by decide +kernel
theorem dX9_lights_28 : decode cX9_lights 28 = .ok (.ifCond .eq 7, 3) := by decide +kernel
theorem dX9_lights_31 : decode cX9_lights 31 = .ok (.iconst 1, 1) := by decide +kernel
theorem dX9_lights_32 : decode cX9_lights 32 = .ok (.goto 4, 3) := by decide +kernel
theorem dX9_lights_35 : decode cX9_lights 35 = .ok (.iconst 0, 1) := by decide +kernel
theorem dX9_lights_36 : decode cX9_lights 36 = .ok (.iadd, 1) := by decide +kernel
theorem dX9_lights_37 : decode cX9_lights 37 = .ok (.istore_n 2, 1) := by decide +kernel
theorem dX9_lights_38 : decode cX9_lights 38 = .ok (.iinc 3 1, 3) := by decide +kernel
theorem dX9_lights_41 : decode cX9_lights 41 = .ok (.goto (-37), 3) := by decide +kernel
theorem dX9_lights_44 : decode cX9_lights 44 = .ok (.iload_n 2, 1) := by decide +kernel
theorem dX9_lights_45 : decode cX9_lights 45 = .ok (.ireturn, 1) := by decide +kernel
theorem dX9_isDueNow_0 : decode cX9_isDueNow 0 = .ok (.aload_n 0, 1) := by decide +kernel
theorem dX9_isDueNow_1 : decode cX9_isDueNow 1 = .ok (.getfield 31, 3) := by decide +kernel
theorem dX9_isDueNow_4 : decode cX9_isDueNow 4 = .ok (.iload_n 1, 1) := by decide +kernel
theorem dX9_isDueNow_5 : decode cX9_isDueNow 5 = .ok (.iaload, 1) := by decide +kernel
theorem dX9_isDueNow_6 : decode cX9_isDueNow 6 = .ok (.ifCond .gt 11, 3) := by decide +kernel
theorem dX9_isDueNow_9 : decode cX9_isDueNow 9 = .ok (.aload_n 0, 1) := by decide +kernel
theorem dX9_isDueNow_10 : decode cX9_isDueNow 10 = .ok (.iload_n 1, 1) := by decide +kernel
theorem dX9_isDueNow_11 : decode cX9_isDueNow 11 = .ok (.invokevirtual 120, 3) := by decide +kernel
theorem dX9_isDueNow_14 : decode cX9_isDueNow 14 = .ok (.ifCond .le 7, 3) := by decide +kernel
theorem dX9_isDueNow_17 : decode cX9_isDueNow 17 = .ok (.iconst 1, 1) := by decide +kernel
theorem dX9_isDueNow_18 : decode cX9_isDueNow 18 = .ok (.goto 4, 3) := by decide +kernel
theorem dX9_isDueNow_21 : decode cX9_isDueNow 21 = .ok (.iconst 0, 1) := by decide +kernel
theorem dX9_isDueNow_22 : decode cX9_isDueNow 22 = .ok (.ireturn, 1) := by decide +kernel
theorem dX9_newDay_0 : decode cX9_newDay 0 = .ok (.aload_n 0, 1) := by decide +kernel
theorem dX9_newDay_1 : decode cX9_newDay 1 = .ok (.iconst 0, 1) := by decide +kernel
theorem dX9_newDay_2 : decode cX9_newDay 2 = .ok (.putfield 81, 3) := by decide +kernel
theorem dX9_newDay_5 : decode cX9_newDay 5 = .ok (.iconst 0, 1) := by decide +kernel
theorem dX9_newDay_6 : decode cX9_newDay 6 = .ok (.istore_n 1, 1) := by decide +kernel
theorem dX9_newDay_7 : decode cX9_newDay 7 = .ok (.iconst 0, 1) := by decide +kernel
theorem dX9_newDay_8 : decode cX9_newDay 8 = .ok (.istore_n 2, 1) := by decide +kernel
theorem dX9_newDay_9 : decode cX9_newDay 9 = .ok (.iload_n 2, 1) := by decide +kernel
theorem dX9_newDay_10 : decode cX9_newDay 10 = .ok (.aload_n 0, 1) := by decide +kernel
theorem dX9_newDay_11 : decode cX9_newDay 11 = .ok (.getfield 91, 3) := by decide +kernel
theorem dX9_newDay_14 : decode cX9_newDay 14 = .ok (.if_icmp .ge 25, 3) := by decide +kernel
theorem dX9_newDay_17 : decode cX9_newDay 17 = .ok (.iload_n 1, 1) := by decide +kernel
theorem dX9_newDay_18 : decode cX9_newDay 18 = .ok (.aload_n 0, 1) := by decide +kernel
theorem dX9_newDay_19 : decode cX9_newDay 19 = .ok (.iload_n 2, 1) := by decide +kernel
theorem dX9_newDay_20 : decode cX9_newDay 20 = .ok (.invokevirtual 123, 3) := by decide +kernel
theorem dX9_newDay_23 : decode cX9_newDay 23 = .ok (.ifCond .eq 7, 3) := by decide +kernel
theorem dX9_newDay_26 : decode cX9_newDay 26 = .ok (.iconst 1, 1) := by decide +kernel
theorem dX9_newDay_27 : decode cX9_newDay 27 = .ok (.goto 4, 3) := by decide +kernel
theorem dX9_newDay_30 : decode cX9_newDay 30 = .ok (.iconst 0, 1) := by decide +kernel
theorem dX9_newDay_31 : decode cX9_newDay 31 = .ok (.iadd, 1) := by decide +kernel
theorem dX9_newDay_32 : decode cX9_newDay 32 = .ok (.istore_n 1, 1) := by decide +kernel
theorem dX9_newDay_33 : decode cX9_newDay 33 = .ok (.iinc 2 1, 3) := by decide +kernel
theorem dX9_newDay_36 : decode cX9_newDay 36 = .ok (.goto (-27), 3) := by decide +kernel
theorem dX9_newDay_39 : decode cX9_newDay 39 = .ok (.iconst 0, 1) := by decide +kernel
theorem dX9_newDay_40 : decode cX9_newDay 40 = .ok (.istore_n 2, 1) := by decide +kernel
theorem dX9_newDay_41 : decode cX9_newDay 41 = .ok (.iload_n 2, 1) := by decide +kernel
theorem dX9_newDay_42 : decode cX9_newDay 42 = .ok (.aload_n 0, 1) := by decide +kernel
theorem dX9_newDay_43 : decode cX9_newDay 43 = .ok (.getfield 91, 3) := by decide +kernel
theorem dX9_newDay_46 : decode cX9_newDay 46 = .ok (.if_icmp .ge 16, 3) := by decide +kernel
theorem dX9_newDay_49 : decode cX9_newDay 49 = .ok (.aload_n 0, 1) := by decide +kernel
theorem dX9_newDay_50 : decode cX9_newDay 50 = .ok (.getfield 31, 3) := by decide +kernel
theorem dX9_newDay_53 : decode cX9_newDay 53 = .ok (.iload_n 2, 1) := by decide +kernel
theorem dX9_newDay_54 : decode cX9_newDay 54 = .ok (.iconst 0, 1) := by decide +kernel
theorem dX9_newDay_55 : decode cX9_newDay 55 = .ok (.iastore, 1) := by decide +kernel
theorem dX9_newDay_56 : decode cX9_newDay 56 = .ok (.iinc 2 1, 3) := by decide +kernel
theorem dX9_newDay_59 : decode cX9_newDay 59 = .ok (.goto (-18), 3) := by decide +kernel
theorem dX9_newDay_62 : decode cX9_newDay 62 = .ok (.aload_n 0, 1) := by decide +kernel
theorem dX9_newDay_63 : decode cX9_newDay 63 = .ok (.iconst 0, 1) := by decide +kernel
theorem dX9_newDay_64 : decode cX9_newDay 64 = .ok (.putfield 97, 3) := by decide +kernel
theorem dX9_newDay_67 : decode cX9_newDay 67 = .ok (.aload_n 0, 1) := by decide +kernel
theorem dX9_newDay_68 : decode cX9_newDay 68 = .ok (.iconst 0, 1) := by decide +kernel
theorem dX9_newDay_69 : decode cX9_newDay 69 = .ok (.putfield 126, 3) := by decide +kernel
theorem dX9_newDay_72 : decode cX9_newDay 72 = .ok (.iload_n 1, 1) := by decide +kernel
theorem dX9_newDay_73 : decode cX9_newDay 73 = .ok (.ireturn, 1) := by decide +kernel
theorem dX9_places_0 : decode cX9_places 0 = .ok (.aload_n 0, 1) := by decide +kernel
theorem dX9_places_1 : decode cX9_places 1 = .ok (.iconst 0, 1) := by decide +kernel
theorem dX9_places_2 : decode cX9_places 2 = .ok (.putfield 81, 3) := by decide +kernel
theorem dX9_places_5 : decode cX9_places 5 = .ok (.aload_n 0, 1) := by decide +kernel
theorem dX9_places_6 : decode cX9_places 6 = .ok (.getfield 53, 3) := by decide +kernel
theorem dX9_places_9 : decode cX9_places 9 = .ok (.ireturn, 1) := by decide +kernel
theorem dX9_streets_0 : decode cX9_streets 0 = .ok (.aload_n 0, 1) := by decide +kernel
theorem dX9_streets_1 : decode cX9_streets 1 = .ok (.iconst 0, 1) := by decide +kernel
theorem dX9_streets_2 : decode cX9_streets 2 = .ok (.putfield 81, 3) := by decide +kernel
theorem dX9_streets_5 : decode cX9_streets 5 = .ok (.aload_n 0, 1) := by decide +kernel
theorem dX9_streets_6 : decode cX9_streets 6 = .ok (.getfield 84, 3) := by decide +kernel
theorem dX9_streets_9 : decode cX9_streets 9 = .ok (.ireturn, 1) := by decide +kernel
theorem dX9_houses_0 : decode cX9_houses 0 = .ok (.aload_n 0, 1) := by decide +kernel
theorem dX9_houses_1 : decode cX9_houses 1 = .ok (.iconst 0, 1) := by decide +kernel
theorem dX9_houses_2 : decode cX9_houses 2 = .ok (.putfield 81, 3) := by decide +kernel
theorem dX9_houses_5 : decode cX9_houses 5 = .ok (.aload_n 0, 1) := by decide +kernel
theorem dX9_houses_6 : decode cX9_houses 6 = .ok (.getfield 91, 3) := by decide +kernel
theorem dX9_houses_9 : decode cX9_houses 9 = .ok (.ireturn, 1) := by decide +kernel
theorem dX9_roundOf_0 : decode cX9_roundOf 0 = .ok (.aload_n 0, 1) := by decide +kernel
theorem dX9_roundOf_1 : decode cX9_roundOf 1 = .ok (.iconst 0, 1) := by decide +kernel
theorem dX9_roundOf_2 : decode cX9_roundOf 2 = .ok (.putfield 81, 3) := by decide +kernel
theorem dX9_roundOf_5 : decode cX9_roundOf 5 = .ok (.aload_n 0, 1) := by decide +kernel
theorem dX9_roundOf_6 : decode cX9_roundOf 6 = .ok (.iload_n 1, 1) := by decide +kernel
theorem dX9_roundOf_7 : decode cX9_roundOf 7 = .ok (.invokevirtual 108, 3) := by decide +kernel
theorem dX9_roundOf_10 : decode cX9_roundOf 10 = .ok (.ifCond .eq 12, 3) := by decide +kernel
theorem dX9_roundOf_13 : decode cX9_roundOf 13 = .ok (.aload_n 0, 1) := by decide +kernel
theorem dX9_roundOf_14 : decode cX9_roundOf 14 = .ok (.getfield 19, 3) := by decide +kernel
theorem dX9_roundOf_17 : decode cX9_roundOf 17 = .ok (.iload_n 1, 1) := by decide +kernel
theorem dX9_roundOf_18 : decode cX9_roundOf 18 = .ok (.iaload, 1) := by decide +kernel
theorem dX9_roundOf_19 : decode cX9_roundOf 19 = .ok (.goto 8, 3) := by decide +kernel
theorem dX9_roundOf_22 : decode cX9_roundOf 22 = .ok (.aload_n 0, 1) := by decide +kernel
theorem dX9_roundOf_23 : decode cX9_roundOf 23 = .ok (.iconst 1, 1) := by decide +kernel
theorem dX9_roundOf_24 : decode cX9_roundOf 24 = .ok (.invokevirtual 100, 3) := by decide +kernel
theorem dX9_roundOf_27 : decode cX9_roundOf 27 = .ok (.ireturn, 1) := by decide +kernel
theorem dX9_houseAt_0 : decode cX9_houseAt 0 = .ok (.aload_n 0, 1) := by decide +kernel
theorem dX9_houseAt_1 : decode cX9_houseAt 1 = .ok (.iconst 0, 1) := by decide +kernel
theorem dX9_houseAt_2 : decode cX9_houseAt 2 = .ok (.putfield 81, 3) := by decide +kernel
theorem dX9_houseAt_5 : decode cX9_houseAt 5 = .ok (.aload_n 0, 1) := by decide +kernel
theorem dX9_houseAt_6 : decode cX9_houseAt 6 = .ok (.iload_n 1, 1) := by decide +kernel
theorem dX9_houseAt_7 : decode cX9_houseAt 7 = .ok (.invokevirtual 108, 3) := by decide +kernel
theorem dX9_houseAt_10 : decode cX9_houseAt 10 = .ok (.ifCond .ne 9, 3) := by decide +kernel
theorem dX9_houseAt_13 : decode cX9_houseAt 13 = .ok (.aload_n 0, 1) := by decide +kernel
theorem dX9_houseAt_14 : decode cX9_houseAt 14 = .ok (.iconst 1, 1) := by decide +kernel
theorem dX9_houseAt_15 : decode cX9_houseAt 15 = .ok (.invokevirtual 100, 3) := by decide +kernel
theorem dX9_houseAt_18 : decode cX9_houseAt 18 = .ok (.ireturn, 1) := by decide +kernel
theorem dX9_houseAt_19 : decode cX9_houseAt 19 = .ok (.iload_n 2, 1) := by decide +kernel
theorem dX9_houseAt_20 : decode cX9_houseAt 20 = .ok (.iconst 0, 1) := by decide +kernel
theorem dX9_houseAt_21 : decode cX9_houseAt 21 = .ok (.iconst 1, 1) := by decide +kernel
theorem dX9_houseAt_22 : decode cX9_houseAt 22 = .ok (.invokestatic 87, 3) := by decide +kernel
theorem dX9_houseAt_25 : decode cX9_houseAt 25 = .ok (.ifCond .ne 9, 3) := by decide +kernel
theorem dX9_houseAt_28 : decode cX9_houseAt 28 = .ok (.aload_n 0, 1) := by decide +kernel
theorem dX9_houseAt_29 : decode cX9_houseAt 29 = .ok (.iconst 2, 1) := by decide +kernel
theorem dX9_houseAt_30 : decode cX9_houseAt 30 = .ok (.invokevirtual 100, 3) := by decide +kernel
theorem dX9_houseAt_33 : decode cX9_houseAt 33 = .ok (.ireturn, 1) := by decide +kernel
theorem dX9_houseAt_34 : decode cX9_houseAt 34 = .ok (.iconst 0, 1) := by decide +kernel
theorem dX9_houseAt_35 : decode cX9_houseAt 35 = .ok (.istore 4, 2) := by decide +kernel
theorem dX9_houseAt_37 : decode cX9_houseAt 37 = .ok (.iload 4, 2) := by decide +kernel
theorem dX9_houseAt_39 : decode cX9_houseAt 39 = .ok (.aload_n 0, 1) := by decide +kernel
theorem dX9_houseAt_40 : decode cX9_houseAt 40 = .ok (.getfield 91, 3) := by decide +kernel
theorem dX9_houseAt_43 : decode cX9_houseAt 43 = .ok (.if_icmp .ge 137, 3) := by decide +kernel
theorem dX9_houseAt_46 : decode cX9_houseAt 46 = .ok (.aload_n 0, 1) := by decide +kernel
theorem dX9_houseAt_47 : decode cX9_houseAt 47 = .ok (.getfield 22, 3) := by decide +kernel
theorem dX9_houseAt_50 : decode cX9_houseAt 50 = .ok (.iload 4, 2) := by decide +kernel
theorem dX9_houseAt_52 : decode cX9_houseAt 52 = .ok (.iaload, 1) := by decide +kernel
theorem dX9_houseAt_53 : decode cX9_houseAt 53 = .ok (.iload_n 1, 1) := by decide +kernel
theorem dX9_houseAt_54 : decode cX9_houseAt 54 = .ok (.if_icmp .ne 120, 3) := by decide +kernel
theorem dX9_houseAt_57 : decode cX9_houseAt 57 = .ok (.aload_n 0, 1) := by decide +kernel
theorem dX9_houseAt_58 : decode cX9_houseAt 58 = .ok (.getfield 25, 3) := by decide +kernel
theorem dX9_houseAt_61 : decode cX9_houseAt 61 = .ok (.iload 4, 2) := by decide +kernel
theorem dX9_houseAt_63 : decode cX9_houseAt 63 = .ok (.iaload, 1) := by decide +kernel
theorem dX9_houseAt_64 : decode cX9_houseAt 64 = .ok (.iload_n 2, 1) := by decide +kernel
theorem dX9_houseAt_65 : decode cX9_houseAt 65 = .ok (.if_icmp .eq 6, 3) := by decide +kernel
theorem dX9_houseAt_68 : decode cX9_houseAt 68 = .ok (.goto 106, 3) := by decide +kernel
theorem dX9_houseAt_71 : decode cX9_houseAt 71 = .ok (.iconst 0, 1) := by decide +kernel
theorem dX9_houseAt_72 : decode cX9_houseAt 72 = .ok (.istore 5, 2) := by decide +kernel
theorem dX9_houseAt_74 : decode cX9_houseAt 74 = .ok (.iconst 0, 1) := by decide +kernel
theorem dX9_houseAt_75 : decode cX9_houseAt 75 = .ok (.istore 6, 2) := by decide +kernel
theorem dX9_houseAt_77 : decode cX9_houseAt 77 = .ok (.iload 6, 2) := by decide +kernel
theorem dX9_houseAt_79 : decode cX9_houseAt 79 = .ok (.aload_n 0, 1) := by decide +kernel
theorem dX9_houseAt_80 : decode cX9_houseAt 80 = .ok (.getfield 91, 3) := by decide +kernel
theorem dX9_houseAt_83 : decode cX9_houseAt 83 = .ok (.if_icmp .ge 82, 3) := by decide +kernel
theorem dX9_houseAt_86 : decode cX9_houseAt 86 = .ok (.iload 5, 2) := by decide +kernel
theorem dX9_houseAt_88 : decode cX9_houseAt 88 = .ok (.aload_n 0, 1) := by decide +kernel
theorem dX9_houseAt_89 : decode cX9_houseAt 89 = .ok (.getfield 22, 3) := by decide +kernel
theorem dX9_houseAt_92 : decode cX9_houseAt 92 = .ok (.iload 6, 2) := by decide +kernel
theorem dX9_houseAt_94 : decode cX9_houseAt 94 = .ok (.iaload, 1) := by decide +kernel
theorem dX9_houseAt_95 : decode cX9_houseAt 95 = .ok (.iload_n 1, 1) := by decide +kernel
theorem dX9_houseAt_96 : decode cX9_houseAt 96 = .ok (.if_icmp .ne 59, 3) := by decide +kernel
theorem dX9_houseAt_99 : decode cX9_houseAt 99 = .ok (.aload_n 0, 1) := by decide +kernel
theorem dX9_houseAt_100 : decode cX9_houseAt 100 = .ok (.getfield 25, 3) := by decide +kernel
theorem dX9_houseAt_103 : decode cX9_houseAt 103 = .ok (.iload 6, 2) := by decide +kernel
theorem dX9_houseAt_105 : decode cX9_houseAt 105 = .ok (.iaload, 1) := by decide +kernel
theorem dX9_houseAt_106 : decode cX9_houseAt 106 = .ok (.iload_n 2, 1) := by decide +kernel
theorem dX9_houseAt_107 : decode cX9_houseAt 107 = .ok (.if_icmp .ne 48, 3) := by decide +kernel
theorem dX9_houseAt_110 : decode cX9_houseAt 110 = .ok (.aload_n 0, 1) := by decide +kernel
theorem dX9_houseAt_111 : decode cX9_houseAt 111 = .ok (.getfield 28, 3) := by decide +kernel
theorem dX9_houseAt_114 : decode cX9_houseAt 114 = .ok (.iload 6, 2) := by decide +kernel
theorem dX9_houseAt_116 : decode cX9_houseAt 116 = .ok (.iaload, 1) := by decide +kernel
theorem dX9_houseAt_117 : decode cX9_houseAt 117 = .ok (.aload_n 0, 1) := by decide +kernel
theorem dX9_houseAt_118 : decode cX9_houseAt 118 = .ok (.getfield 28, 3) := by decide +kernel
theorem dX9_houseAt_121 : decode cX9_houseAt 121 = .ok (.iload 4, 2) := by decide +kernel
theorem dX9_houseAt_123 : decode cX9_houseAt 123 = .ok (.iaload, 1) := by decide +kernel
theorem dX9_houseAt_124 : decode cX9_houseAt 124 = .ok (.if_icmp .lt 27, 3) := by decide +kernel
theorem dX9_houseAt_127 : decode cX9_houseAt 127 = .ok (.aload_n 0, 1) := by decide +kernel
theorem dX9_houseAt_128 : decode cX9_houseAt 128 = .ok (.getfield 28, 3) := by decide +kernel
theorem dX9_houseAt_131 : decode cX9_houseAt 131 = .ok (.iload 6, 2) := by decide +kernel
theorem dX9_houseAt_133 : decode cX9_houseAt 133 = .ok (.iaload, 1) := by decide +kernel
theorem dX9_houseAt_134 : decode cX9_houseAt 134 = .ok (.aload_n 0, 1) := by decide +kernel
theorem dX9_houseAt_135 : decode cX9_houseAt 135 = .ok (.getfield 28, 3) := by decide +kernel
theorem dX9_houseAt_138 : decode cX9_houseAt 138 = .ok (.iload 4, 2) := by decide +kernel
theorem dX9_houseAt_140 : decode cX9_houseAt 140 = .ok (.iaload, 1) := by decide +kernel
theorem dX9_houseAt_141 : decode cX9_houseAt 141 = .ok (.if_icmp .ne 14, 3) := by decide +kernel
theorem dX9_houseAt_144 : decode cX9_houseAt 144 = .ok (.iload 6, 2) := by decide +kernel
theorem dX9_houseAt_146 : decode cX9_houseAt 146 = .ok (.iload 4, 2) := by decide +kernel
theorem dX9_houseAt_148 : decode cX9_houseAt 148 = .ok (.if_icmp .ge 7, 3) := by decide +kernel
theorem dX9_houseAt_151 : decode cX9_houseAt 151 = .ok (.iconst 1, 1) := by decide +kernel
theorem dX9_houseAt_152 : decode cX9_houseAt 152 = .ok (.goto 4, 3) := by decide +kernel
theorem dX9_houseAt_155 : decode cX9_houseAt 155 = .ok (.iconst 0, 1) := by decide +kernel
theorem dX9_houseAt_156 : decode cX9_houseAt 156 = .ok (.iadd, 1) := by decide +kernel
theorem dX9_houseAt_157 : decode cX9_houseAt 157 = .ok (.istore 5, 2) := by decide +kernel
theorem dX9_houseAt_159 : decode cX9_houseAt 159 = .ok (.iinc 6 1, 3) := by decide +kernel
theorem dX9_houseAt_162 : decode cX9_houseAt 162 = .ok (.goto (-85), 3) := by decide +kernel
theorem dX9_houseAt_165 : decode cX9_houseAt 165 = .ok (.iload 5, 2) := by decide +kernel
theorem dX9_houseAt_167 : decode cX9_houseAt 167 = .ok (.iload_n 3, 1) := by decide +kernel
theorem dX9_houseAt_168 : decode cX9_houseAt 168 = .ok (.if_icmp .ne 6, 3) := by decide +kernel
theorem dX9_houseAt_171 : decode cX9_houseAt 171 = .ok (.iload 4, 2) := by decide +kernel
theorem dX9_houseAt_173 : decode cX9_houseAt 173 = .ok (.ireturn, 1) := by decide +kernel
theorem dX9_houseAt_174 : decode cX9_houseAt 174 = .ok (.iinc 4 1, 3) := by decide +kernel
theorem dX9_houseAt_177 : decode cX9_houseAt 177 = .ok (.goto (-140), 3) := by decide +kernel
theorem dX9_houseAt_180 : decode cX9_houseAt 180 = .ok (.aload_n 0, 1) := by decide +kernel
theorem dX9_houseAt_181 : decode cX9_houseAt 181 = .ok (.iconst 3, 1) := by decide +kernel
theorem dX9_houseAt_182 : decode cX9_houseAt 182 = .ok (.invokevirtual 100, 3) := by decide +kernel
theorem dX9_houseAt_185 : decode cX9_houseAt 185 = .ok (.ireturn, 1) := by decide +kernel
theorem dX9_lettersOf_0 : decode cX9_lettersOf 0 = .ok (.aload_n 0, 1) := by decide +kernel
theorem dX9_lettersOf_1 : decode cX9_lettersOf 1 = .ok (.iconst 0, 1) := by decide +kernel
theorem dX9_lettersOf_2 : decode cX9_lettersOf 2 = .ok (.putfield 81, 3) := by decide +kernel
theorem dX9_lettersOf_5 : decode cX9_lettersOf 5 = .ok (.aload_n 0, 1) := by decide +kernel
theorem dX9_lettersOf_6 : decode cX9_lettersOf 6 = .ok (.iload_n 1, 1) := by decide +kernel
theorem dX9_lettersOf_7 : decode cX9_lettersOf 7 = .ok (.invokevirtual 114, 3) := by decide +kernel
theorem dX9_lettersOf_10 : decode cX9_lettersOf 10 = .ok (.ifCond .eq 12, 3) := by decide +kernel
theorem dX9_lettersOf_13 : decode cX9_lettersOf 13 = .ok (.aload_n 0, 1) := by decide +kernel
theorem dX9_lettersOf_14 : decode cX9_lettersOf 14 = .ok (.getfield 31, 3) := by decide +kernel
theorem dX9_lettersOf_17 : decode cX9_lettersOf 17 = .ok (.iload_n 1, 1) := by decide +kernel
theorem dX9_lettersOf_18 : decode cX9_lettersOf 18 = .ok (.iaload, 1) := by decide +kernel
theorem dX9_lettersOf_19 : decode cX9_lettersOf 19 = .ok (.goto 8, 3) := by decide +kernel
theorem dX9_lettersOf_22 : decode cX9_lettersOf 22 = .ok (.aload_n 0, 1) := by decide +kernel
theorem dX9_lettersOf_23 : decode cX9_lettersOf 23 = .ok (.iconst 1, 1) := by decide +kernel
theorem dX9_lettersOf_24 : decode cX9_lettersOf 24 = .ok (.invokevirtual 100, 3) := by decide +kernel
theorem dX9_lettersOf_27 : decode cX9_lettersOf 27 = .ok (.ireturn, 1) := by decide +kernel
theorem dX9_isDue_0 : decode cX9_isDue 0 = .ok (.aload_n 0, 1) := by decide +kernel
theorem dX9_isDue_1 : decode cX9_isDue 1 = .ok (.iconst 0, 1) := by decide +kernel
theorem dX9_isDue_2 : decode cX9_isDue 2 = .ok (.putfield 81, 3) := by decide +kernel
theorem dX9_isDue_5 : decode cX9_isDue 5 = .ok (.aload_n 0, 1) := by decide +kernel
theorem dX9_isDue_6 : decode cX9_isDue 6 = .ok (.iload_n 1, 1) := by decide +kernel
theorem dX9_isDue_7 : decode cX9_isDue 7 = .ok (.invokevirtual 114, 3) := by decide +kernel
theorem dX9_isDue_10 : decode cX9_isDue 10 = .ok (.ifCond .eq 11, 3) := by decide +kernel
theorem dX9_isDue_13 : decode cX9_isDue 13 = .ok (.aload_n 0, 1) := by decide +kernel
theorem dX9_isDue_14 : decode cX9_isDue 14 = .ok (.iload_n 1, 1) := by decide +kernel
theorem dX9_isDue_15 : decode cX9_isDue 15 = .ok (.invokevirtual 123, 3) := by decide +kernel
theorem dX9_isDue_18 : decode cX9_isDue 18 = .ok (.goto 16, 3) := by decide +kernel
theorem dX9_isDue_21 : decode cX9_isDue 21 = .ok (.aload_n 0, 1) := by decide +kernel
theorem dX9_isDue_22 : decode cX9_isDue 22 = .ok (.iconst 1, 1) := by decide +kernel
theorem dX9_isDue_23 : decode cX9_isDue 23 = .ok (.invokevirtual 100, 3) := by decide +kernel
theorem dX9_isDue_26 : decode cX9_isDue 26 = .ok (.ifCond .le 7, 3) := by decide +kernel
theorem dX9_isDue_29 : decode cX9_isDue 29 = .ok (.iconst 1, 1) := by decide +kernel
theorem dX9_isDue_30 : decode cX9_isDue 30 = .ok (.goto 4, 3) := by decide +kernel
theorem dX9_isDue_33 : decode cX9_isDue 33 = .ok (.iconst 0, 1) := by decide +kernel
theorem dX9_isDue_34 : decode cX9_isDue 34 = .ok (.ireturn, 1) := by decide +kernel
theorem dX9_isAt_0 : decode cX9_isAt 0 = .ok (.aload_n 0, 1) := by decide +kernel
theorem dX9_isAt_1 : decode cX9_isAt 1 = .ok (.getfield 19, 3) := by decide +kernel
theorem dX9_isAt_4 : decode cX9_isAt 4 = .ok (.aload_n 0, 1) := by decide +kernel
theorem dX9_isAt_5 : decode cX9_isAt 5 = .ok (.getfield 22, 3) := by decide +kernel
theorem dX9_isAt_8 : decode cX9_isAt 8 = .ok (.iload_n 1, 1) := by decide +kernel
theorem dX9_isAt_9 : decode cX9_isAt 9 = .ok (.iaload, 1) := by decide +kernel
theorem dX9_isAt_10 : decode cX9_isAt 10 = .ok (.iaload, 1) := by decide +kernel
theorem dX9_isAt_11 : decode cX9_isAt 11 = .ok (.ifCond .lt 26, 3) := by decide +kernel
theorem dX9_isAt_14 : decode cX9_isAt 14 = .ok (.iload_n 2, 1) := by decide +kernel
theorem dX9_isAt_15 : decode cX9_isAt 15 = .ok (.aload_n 0, 1) := by decide +kernel
theorem dX9_isAt_16 : decode cX9_isAt 16 = .ok (.getfield 19, 3) := by decide +kernel
theorem dX9_isAt_19 : decode cX9_isAt 19 = .ok (.aload_n 0, 1) := by decide +kernel
theorem dX9_isAt_20 : decode cX9_isAt 20 = .ok (.getfield 22, 3) := by decide +kernel
theorem dX9_isAt_23 : decode cX9_isAt 23 = .ok (.iload_n 1, 1) := by decide +kernel
theorem dX9_isAt_24 : decode cX9_isAt 24 = .ok (.iaload, 1) := by decide +kernel
theorem dX9_isAt_25 : decode cX9_isAt 25 = .ok (.iaload, 1) := by decide +kernel
theorem dX9_isAt_26 : decode cX9_isAt 26 = .ok (.ishr, 1) := by decide +kernel
theorem dX9_isAt_27 : decode cX9_isAt 27 = .ok (.iconst 1, 1) := by decide +kernel
theorem dX9_isAt_28 : decode cX9_isAt 28 = .ok (.iand, 1) := by decide +kernel
theorem dX9_isAt_29 : decode cX9_isAt 29 = .ok (.iconst 1, 1) := by decide +kernel
theorem dX9_isAt_30 : decode cX9_isAt 30 = .ok (.if_icmp .ne 7, 3) := by decide +kernel
theorem dX9_isAt_33 : decode cX9_isAt 33 = .ok (.iconst 1, 1) := by decide +kernel
theorem dX9_isAt_34 : decode cX9_isAt 34 = .ok (.goto 4, 3) := by decide +kernel
theorem dX9_isAt_37 : decode cX9_isAt 37 = .ok (.iconst 0, 1) := by decide +kernel
theorem dX9_isAt_38 : decode cX9_isAt 38 = .ok (.ireturn, 1) := by decide +kernel
theorem dX9_dueAt_0 : decode cX9_dueAt 0 = .ok (.iconst 0, 1) := by decide +kernel
theorem dX9_dueAt_1 : decode cX9_dueAt 1 = .ok (.istore_n 2, 1) := by decide +kernel
theorem dX9_dueAt_2 : decode cX9_dueAt 2 = .ok (.iconst 0, 1) := by decide +kernel
theorem dX9_dueAt_3 : decode cX9_dueAt 3 = .ok (.istore_n 3, 1) := by decide +kernel
theorem dX9_dueAt_4 : decode cX9_dueAt 4 = .ok (.iload_n 3, 1) := by decide +kernel
theorem dX9_dueAt_5 : decode cX9_dueAt 5 = .ok (.aload_n 0, 1) := by decide +kernel
theorem dX9_dueAt_6 : decode cX9_dueAt 6 = .ok (.getfield 91, 3) := by decide +kernel
theorem dX9_dueAt_9 : decode cX9_dueAt 9 = .ok (.if_icmp .ge 34, 3) := by decide +kernel
theorem dX9_dueAt_12 : decode cX9_dueAt 12 = .ok (.iload_n 2, 1) := by decide +kernel
theorem dX9_dueAt_13 : decode cX9_dueAt 13 = .ok (.aload_n 0, 1) := by decide +kernel
theorem dX9_dueAt_14 : decode cX9_dueAt 14 = .ok (.iload_n 3, 1) := by decide +kernel
theorem dX9_dueAt_15 : decode cX9_dueAt 15 = .ok (.iload_n 1, 1) := by decide +kernel
theorem dX9_dueAt_16 : decode cX9_dueAt 16 = .ok (.invokevirtual 129, 3) := by decide +kernel
theorem dX9_dueAt_19 : decode cX9_dueAt 19 = .ok (.ifCond .eq 15, 3) := by decide +kernel
theorem dX9_dueAt_22 : decode cX9_dueAt 22 = .ok (.aload_n 0, 1) := by decide +kernel
theorem dX9_dueAt_23 : decode cX9_dueAt 23 = .ok (.iload_n 3, 1) := by decide +kernel
theorem dX9_dueAt_24 : decode cX9_dueAt 24 = .ok (.invokevirtual 123, 3) := by decide +kernel
theorem dX9_dueAt_27 : decode cX9_dueAt 27 = .ok (.ifCond .eq 7, 3) := by decide +kernel
theorem dX9_dueAt_30 : decode cX9_dueAt 30 = .ok (.iconst 1, 1) := by decide +kernel
theorem dX9_dueAt_31 : decode cX9_dueAt 31 = .ok (.goto 4, 3) := by decide +kernel
theorem dX9_dueAt_34 : decode cX9_dueAt 34 = .ok (.iconst 0, 1) := by decide +kernel
theorem dX9_dueAt_35 : decode cX9_dueAt 35 = .ok (.iadd, 1) := by decide +kernel
theorem dX9_dueAt_36 : decode cX9_dueAt 36 = .ok (.istore_n 2, 1) := by decide +kernel
theorem dX9_dueAt_37 : decode cX9_dueAt 37 = .ok (.iinc 3 1, 3) := by decide +kernel
theorem dX9_dueAt_40 : decode cX9_dueAt 40 = .ok (.goto (-36), 3) := by decide +kernel
theorem dX9_dueAt_43 : decode cX9_dueAt 43 = .ok (.iload_n 2, 1) := by decide +kernel
theorem dX9_dueAt_44 : decode cX9_dueAt 44 = .ok (.ireturn, 1) := by decide +kernel
theorem dX9_due_0 : decode cX9_due 0 = .ok (.aload_n 0, 1) := by decide +kernel
theorem dX9_due_1 : decode cX9_due 1 = .ok (.iconst 0, 1) := by decide +kernel
theorem dX9_due_2 : decode cX9_due 2 = .ok (.putfield 81, 3) := by decide +kernel
theorem dX9_due_5 : decode cX9_due 5 = .ok (.aload_n 0, 1) := by decide +kernel
theorem dX9_due_6 : decode cX9_due 6 = .ok (.iload_n 1, 1) := by decide +kernel
theorem dX9_due_7 : decode cX9_due 7 = .ok (.invokevirtual 111, 3) := by decide +kernel
theorem dX9_due_10 : decode cX9_due 10 = .ok (.ifCond .eq 13, 3) := by decide +kernel
theorem dX9_due_13 : decode cX9_due 13 = .ok (.aload_n 0, 1) := by decide +kernel
theorem dX9_due_14 : decode cX9_due 14 = .ok (.iconst 1, 1) := by decide +kernel
theorem dX9_due_15 : decode cX9_due 15 = .ok (.iload_n 1, 1) := by decide +kernel
theorem dX9_due_16 : decode cX9_due 16 = .ok (.ishl, 1) := by decide +kernel
theorem dX9_due_17 : decode cX9_due 17 = .ok (.invokevirtual 133, 3) := by decide +kernel
theorem dX9_due_20 : decode cX9_due 20 = .ok (.goto 8, 3) := by decide +kernel
theorem dX9_due_23 : decode cX9_due 23 = .ok (.aload_n 0, 1) := by decide +kernel
theorem dX9_due_24 : decode cX9_due 24 = .ok (.iconst 1, 1) := by decide +kernel
theorem dX9_due_25 : decode cX9_due 25 = .ok (.invokevirtual 100, 3) := by decide +kernel
theorem dX9_due_28 : decode cX9_due 28 = .ok (.ireturn, 1) := by decide +kernel
theorem dX9_measures_0 : decode cX9_measures 0 = .ok (.iconst 0, 1) := by decide +kernel
theorem dX9_measures_1 : decode cX9_measures 1 = .ok (.istore_n 1, 1) := by decide +kernel
theorem dX9_measures_2 : decode cX9_measures 2 = .ok (.iload_n 1, 1) := by decide +kernel
theorem dX9_measures_3 : decode cX9_measures 3 = .ok (.bipush 10, 2) := by decide +kernel
theorem dX9_measures_5 : decode cX9_measures 5 = .ok (.if_icmp .ge 45, 3) := by decide +kernel
theorem dX9_measures_8 : decode cX9_measures 8 = .ok (.iconst 0, 1) := by decide +kernel
theorem dX9_measures_9 : decode cX9_measures 9 = .ok (.istore_n 2, 1) := by decide +kernel
theorem dX9_measures_10 : decode cX9_measures 10 = .ok (.iload_n 2, 1) := by decide +kernel
theorem dX9_measures_11 : decode cX9_measures 11 = .ok (.bipush 10, 2) := by decide +kernel
theorem dX9_measures_13 : decode cX9_measures 13 = .ok (.if_icmp .ge 31, 3) := by decide +kernel
theorem dX9_measures_16 : decode cX9_measures 16 = .ok (.aload_n 0, 1) := by decide +kernel
theorem dX9_measures_17 : decode cX9_measures 17 = .ok (.getfield 60, 3) := by decide +kernel
theorem dX9_measures_20 : decode cX9_measures 20 = .ok (.bipush 10, 2) := by decide +kernel
theorem dX9_measures_22 : decode cX9_measures 22 = .ok (.iload_n 1, 1) := by decide +kernel
theorem dX9_measures_23 : decode cX9_measures 23 = .ok (.imul, 1) := by decide +kernel
theorem dX9_measures_24 : decode cX9_measures 24 = .ok (.iload_n 2, 1) := by decide +kernel
theorem dX9_measures_25 : decode cX9_measures 25 = .ok (.iadd, 1) := by decide +kernel
theorem dX9_measures_26 : decode cX9_measures 26 = .ok (.iload_n 1, 1) := by decide +kernel
theorem dX9_measures_27 : decode cX9_measures 27 = .ok (.iload_n 2, 1) := by decide +kernel
theorem dX9_measures_28 : decode cX9_measures 28 = .ok (.if_icmp .ne 7, 3) := by decide +kernel
theorem dX9_measures_31 : decode cX9_measures 31 = .ok (.iconst 0, 1) := by decide +kernel
theorem dX9_measures_32 : decode cX9_measures 32 = .ok (.goto 5, 3) := by decide +kernel
theorem dX9_measures_35 : decode cX9_measures 35 = .ok (.ldc 136, 2) := by decide +kernel
theorem dX9_measures_37 : decode cX9_measures 37 = .ok (.iastore, 1) := by decide +kernel
theorem dX9_measures_38 : decode cX9_measures 38 = .ok (.iinc 2 1, 3) := by decide +kernel
theorem dX9_measures_41 : decode cX9_measures 41 = .ok (.goto (-31), 3) := by decide +kernel
theorem dX9_measures_44 : decode cX9_measures 44 = .ok (.iinc 1 1, 3) := by decide +kernel
theorem dX9_measures_47 : decode cX9_measures 47 = .ok (.goto (-45), 3) := by decide +kernel
theorem dX9_measures_50 : decode cX9_measures 50 = .ok (.iconst 0, 1) := by decide +kernel
theorem dX9_measures_51 : decode cX9_measures 51 = .ok (.istore_n 1, 1) := by decide +kernel
theorem dX9_measures_52 : decode cX9_measures 52 = .ok (.iload_n 1, 1) := by decide +kernel
theorem dX9_measures_53 : decode cX9_measures 53 = .ok (.aload_n 0, 1) := by decide +kernel
theorem dX9_measures_54 : decode cX9_measures 54 = .ok (.getfield 84, 3) := by decide +kernel
theorem dX9_measures_57 : decode cX9_measures 57 = .ok (.if_icmp .ge 76, 3) := by decide +kernel
theorem dX9_measures_60 : decode cX9_measures 60 = .ok (.bipush 10, 2) := by decide +kernel
theorem dX9_measures_62 : decode cX9_measures 62 = .ok (.aload_n 0, 1) := by decide +kernel
theorem dX9_measures_63 : decode cX9_measures 63 = .ok (.getfield 9, 3) := by decide +kernel
theorem dX9_measures_66 : decode cX9_measures 66 = .ok (.iload_n 1, 1) := by decide +kernel
theorem dX9_measures_67 : decode cX9_measures 67 = .ok (.iaload, 1) := by decide +kernel
theorem dX9_measures_68 : decode cX9_measures 68 = .ok (.imul, 1) := by decide +kernel
theorem dX9_measures_69 : decode cX9_measures 69 = .ok (.aload_n 0, 1) := by decide +kernel
theorem dX9_measures_70 : decode cX9_measures 70 = .ok (.getfield 13, 3) := by decide +kernel
theorem dX9_measures_73 : decode cX9_measures 73 = .ok (.iload_n 1, 1) := by decide +kernel
theorem dX9_measures_74 : decode cX9_measures 74 = .ok (.iaload, 1) := by decide +kernel
theorem dX9_measures_75 : decode cX9_measures 75 = .ok (.iadd, 1) := by decide +kernel
theorem dX9_measures_76 : decode cX9_measures 76 = .ok (.istore_n 2, 1) := by decide +kernel
theorem dX9_measures_77 : decode cX9_measures 77 = .ok (.bipush 10, 2) := by decide +kernel
theorem dX9_measures_79 : decode cX9_measures 79 = .ok (.aload_n 0, 1) := by decide +kernel
theorem dX9_measures_80 : decode cX9_measures 80 = .ok (.getfield 13, 3) := by decide +kernel
theorem dX9_measures_83 : decode cX9_measures 83 = .ok (.iload_n 1, 1) := by decide +kernel
theorem dX9_measures_84 : decode cX9_measures 84 = .ok (.iaload, 1) := by decide +kernel
theorem dX9_measures_85 : decode cX9_measures 85 = .ok (.imul, 1) := by decide +kernel
theorem dX9_measures_86 : decode cX9_measures 86 = .ok (.aload_n 0, 1) := by decide +kernel
theorem dX9_measures_87 : decode cX9_measures 87 = .ok (.getfield 9, 3) := by decide +kernel
theorem dX9_measures_90 : decode cX9_measures 90 = .ok (.iload_n 1, 1) := by decide +kernel
theorem dX9_measures_91 : decode cX9_measures 91 = .ok (.iaload, 1) := by decide +kernel
theorem dX9_measures_92 : decode cX9_measures 92 = .ok (.iadd, 1) := by decide +kernel
theorem dX9_measures_93 : decode cX9_measures 93 = .ok (.istore_n 3, 1) := by decide +kernel
theorem dX9_measures_94 : decode cX9_measures 94 = .ok (.aload_n 0, 1) := by decide +kernel
theorem dX9_measures_95 : decode cX9_measures 95 = .ok (.getfield 60, 3) := by decide +kernel
theorem dX9_measures_98 : decode cX9_measures 98 = .ok (.iload_n 2, 1) := by decide +kernel
theorem dX9_measures_99 : decode cX9_measures 99 = .ok (.aload_n 0, 1) := by decide +kernel
theorem dX9_measures_100 : decode cX9_measures 100 = .ok (.getfield 60, 3) := by decide +kernel
theorem dX9_measures_103 : decode cX9_measures 103 = .ok (.iload_n 2, 1) := by decide +kernel
theorem dX9_measures_104 : decode cX9_measures 104 = .ok (.iaload, 1) := by decide +kernel
theorem dX9_measures_105 : decode cX9_measures 105 = .ok (.aload_n 0, 1) := by decide +kernel
theorem dX9_measures_106 : decode cX9_measures 106 = .ok (.getfield 16, 3) := by decide +kernel
theorem dX9_measures_109 : decode cX9_measures 109 = .ok (.iload_n 1, 1) := by decide +kernel
theorem dX9_measures_110 : decode cX9_measures 110 = .ok (.iaload, 1) := by decide +kernel
theorem dX9_measures_111 : decode cX9_measures 111 = .ok (.invokestatic 137, 3) := by decide +kernel
theorem dX9_measures_114 : decode cX9_measures 114 = .ok (.iastore, 1) := by decide +kernel
theorem dX9_measures_115 : decode cX9_measures 115 = .ok (.aload_n 0, 1) := by decide +kernel
theorem dX9_measures_116 : decode cX9_measures 116 = .ok (.getfield 60, 3) := by decide +kernel
theorem dX9_measures_119 : decode cX9_measures 119 = .ok (.iload_n 3, 1) := by decide +kernel
theorem dX9_measures_120 : decode cX9_measures 120 = .ok (.aload_n 0, 1) := by decide +kernel
theorem dX9_measures_121 : decode cX9_measures 121 = .ok (.getfield 60, 3) := by decide +kernel
theorem dX9_measures_124 : decode cX9_measures 124 = .ok (.iload_n 2, 1) := by decide +kernel
theorem dX9_measures_125 : decode cX9_measures 125 = .ok (.iaload, 1) := by decide +kernel
theorem dX9_measures_126 : decode cX9_measures 126 = .ok (.iastore, 1) := by decide +kernel
theorem dX9_measures_127 : decode cX9_measures 127 = .ok (.iinc 1 1, 3) := by decide +kernel
theorem dX9_measures_130 : decode cX9_measures 130 = .ok (.goto (-78), 3) := by decide +kernel
theorem dX9_measures_133 : decode cX9_measures 133 = .ok (.iconst 0, 1) := by decide +kernel
theorem dX9_measures_134 : decode cX9_measures 134 = .ok (.istore_n 1, 1) := by decide +kernel
theorem dX9_measures_135 : decode cX9_measures 135 = .ok (.iload_n 1, 1) := by decide +kernel
theorem dX9_measures_136 : decode cX9_measures 136 = .ok (.aload_n 0, 1) := by decide +kernel
theorem dX9_measures_137 : decode cX9_measures 137 = .ok (.getfield 53, 3) := by decide +kernel
theorem dX9_measures_140 : decode cX9_measures 140 = .ok (.if_icmp .ge 89, 3) := by decide +kernel
theorem dX9_measures_143 : decode cX9_measures 143 = .ok (.iconst 0, 1) := by decide +kernel
theorem dX9_measures_144 : decode cX9_measures 144 = .ok (.istore_n 2, 1) := by decide +kernel
theorem dX9_measures_145 : decode cX9_measures 145 = .ok (.iload_n 2, 1) := by decide +kernel
theorem dX9_measures_146 : decode cX9_measures 146 = .ok (.aload_n 0, 1) := by decide +kernel
theorem dX9_measures_147 : decode cX9_measures 147 = .ok (.getfield 53, 3) := by decide +kernel
theorem dX9_measures_150 : decode cX9_measures 150 = .ok (.if_icmp .ge 73, 3) := by decide +kernel
theorem dX9_measures_153 : decode cX9_measures 153 = .ok (.iconst 0, 1) := by decide +kernel
theorem dX9_measures_154 : decode cX9_measures 154 = .ok (.istore_n 3, 1) := by decide +kernel
theorem dX9_measures_155 : decode cX9_measures 155 = .ok (.iload_n 3, 1) := by decide +kernel
theorem dX9_measures_156 : decode cX9_measures 156 = .ok (.aload_n 0, 1) := by decide +kernel
theorem dX9_measures_157 : decode cX9_measures 157 = .ok (.getfield 53, 3) := by decide +kernel
theorem dX9_measures_160 : decode cX9_measures 160 = .ok (.if_icmp .ge 57, 3) := by decide +kernel
theorem dX9_measures_163 : decode cX9_measures 163 = .ok (.aload_n 0, 1) := by decide +kernel
theorem dX9_measures_164 : decode cX9_measures 164 = .ok (.getfield 60, 3) := by decide +kernel
theorem dX9_measures_167 : decode cX9_measures 167 = .ok (.bipush 10, 2) := by decide +kernel
theorem dX9_measures_169 : decode cX9_measures 169 = .ok (.iload_n 2, 1) := by decide +kernel
theorem dX9_measures_170 : decode cX9_measures 170 = .ok (.imul, 1) := by decide +kernel
theorem dX9_measures_171 : decode cX9_measures 171 = .ok (.iload_n 3, 1) := by decide +kernel
theorem dX9_measures_172 : decode cX9_measures 172 = .ok (.iadd, 1) := by decide +kernel
theorem dX9_measures_173 : decode cX9_measures 173 = .ok (.aload_n 0, 1) := by decide +kernel
theorem dX9_measures_174 : decode cX9_measures 174 = .ok (.getfield 60, 3) := by decide +kernel
theorem dX9_measures_177 : decode cX9_measures 177 = .ok (.bipush 10, 2) := by decide +kernel
theorem dX9_measures_179 : decode cX9_measures 179 = .ok (.iload_n 2, 1) := by decide +kernel
theorem dX9_measures_180 : decode cX9_measures 180 = .ok (.imul, 1) := by decide +kernel
theorem dX9_measures_181 : decode cX9_measures 181 = .ok (.iload_n 3, 1) := by decide +kernel
theorem dX9_measures_182 : decode cX9_measures 182 = .ok (.iadd, 1) := by decide +kernel
theorem dX9_measures_183 : decode cX9_measures 183 = .ok (.iaload, 1) := by decide +kernel
theorem dX9_measures_184 : decode cX9_measures 184 = .ok (.aload_n 0, 1) := by decide +kernel
theorem dX9_measures_185 : decode cX9_measures 185 = .ok (.getfield 60, 3) := by decide +kernel
theorem dX9_measures_188 : decode cX9_measures 188 = .ok (.bipush 10, 2) := by decide +kernel
theorem dX9_measures_190 : decode cX9_measures 190 = .ok (.iload_n 2, 1) := by decide +kernel
theorem dX9_measures_191 : decode cX9_measures 191 = .ok (.imul, 1) := by decide +kernel
theorem dX9_measures_192 : decode cX9_measures 192 = .ok (.iload_n 1, 1) := by decide +kernel
theorem dX9_measures_193 : decode cX9_measures 193 = .ok (.iadd, 1) := by decide +kernel
theorem dX9_measures_194 : decode cX9_measures 194 = .ok (.iaload, 1) := by decide +kernel
theorem dX9_measures_195 : decode cX9_measures 195 = .ok (.aload_n 0, 1) := by decide +kernel
theorem dX9_measures_196 : decode cX9_measures 196 = .ok (.getfield 60, 3) := by decide +kernel
theorem dX9_measures_199 : decode cX9_measures 199 = .ok (.bipush 10, 2) := by decide +kernel
theorem dX9_measures_201 : decode cX9_measures 201 = .ok (.iload_n 1, 1) := by decide +kernel
theorem dX9_measures_202 : decode cX9_measures 202 = .ok (.imul, 1) := by decide +kernel
theorem dX9_measures_203 : decode cX9_measures 203 = .ok (.iload_n 3, 1) := by decide +kernel
theorem dX9_measures_204 : decode cX9_measures 204 = .ok (.iadd, 1) := by decide +kernel
theorem dX9_measures_205 : decode cX9_measures 205 = .ok (.iaload, 1) := by decide +kernel
theorem dX9_measures_206 : decode cX9_measures 206 = .ok (.iadd, 1) := by decide +kernel
theorem dX9_measures_207 : decode cX9_measures 207 = .ok (.invokestatic 137, 3) := by decide +kernel
theorem dX9_measures_210 : decode cX9_measures 210 = .ok (.iastore, 1) := by decide +kernel
theorem dX9_measures_211 : decode cX9_measures 211 = .ok (.iinc 3 1, 3) := by decide +kernel
theorem dX9_measures_214 : decode cX9_measures 214 = .ok (.goto (-59), 3) := by decide +kernel
theorem dX9_measures_217 : decode cX9_measures 217 = .ok (.iinc 2 1, 3) := by decide +kernel
theorem dX9_measures_220 : decode cX9_measures 220 = .ok (.goto (-75), 3) := by decide +kernel
theorem dX9_measures_223 : decode cX9_measures 223 = .ok (.iinc 1 1, 3) := by decide +kernel
theorem dX9_measures_226 : decode cX9_measures 226 = .ok (.goto (-91), 3) := by decide +kernel
theorem dX9_measures_229 : decode cX9_measures 229 = .ok (.return_, 1) := by decide +kernel
theorem dX9_distance_0 : decode cX9_distance 0 = .ok (.aload_n 0, 1) := by decide +kernel
theorem dX9_distance_1 : decode cX9_distance 1 = .ok (.iconst 0, 1) := by decide +kernel
theorem dX9_distance_2 : decode cX9_distance 2 = .ok (.putfield 81, 3) := by decide +kernel
theorem dX9_distance_5 : decode cX9_distance 5 = .ok (.aload_n 0, 1) := by decide +kernel
theorem dX9_distance_6 : decode cX9_distance 6 = .ok (.iload_n 1, 1) := by decide +kernel
theorem dX9_distance_7 : decode cX9_distance 7 = .ok (.invokevirtual 104, 3) := by decide +kernel
theorem dX9_distance_10 : decode cX9_distance 10 = .ok (.ifCond .eq 11, 3) := by decide +kernel
theorem dX9_distance_13 : decode cX9_distance 13 = .ok (.aload_n 0, 1) := by decide +kernel
theorem dX9_distance_14 : decode cX9_distance 14 = .ok (.iload_n 2, 1) := by decide +kernel
theorem dX9_distance_15 : decode cX9_distance 15 = .ok (.invokevirtual 104, 3) := by decide +kernel
theorem dX9_distance_18 : decode cX9_distance 18 = .ok (.ifCond .ne 9, 3) := by decide +kernel
theorem dX9_distance_21 : decode cX9_distance 21 = .ok (.aload_n 0, 1) := by decide +kernel
theorem dX9_distance_22 : decode cX9_distance 22 = .ok (.iconst 1, 1) := by decide +kernel
theorem dX9_distance_23 : decode cX9_distance 23 = .ok (.invokevirtual 100, 3) := by decide +kernel
theorem dX9_distance_26 : decode cX9_distance 26 = .ok (.ireturn, 1) := by decide +kernel
theorem dX9_distance_27 : decode cX9_distance 27 = .ok (.aload_n 0, 1) := by decide +kernel
theorem dX9_distance_28 : decode cX9_distance 28 = .ok (.invokevirtual 143, 3) := by decide +kernel
theorem dX9_distance_31 : decode cX9_distance 31 = .ok (.aload_n 0, 1) := by decide +kernel
theorem dX9_distance_32 : decode cX9_distance 32 = .ok (.getfield 60, 3) := by decide +kernel
theorem dX9_distance_35 : decode cX9_distance 35 = .ok (.bipush 10, 2) := by decide +kernel
theorem dX9_distance_37 : decode cX9_distance 37 = .ok (.iload_n 1, 1) := by decide +kernel
theorem dX9_distance_38 : decode cX9_distance 38 = .ok (.imul, 1) := by decide +kernel
theorem dX9_distance_39 : decode cX9_distance 39 = .ok (.iload_n 2, 1) := by decide +kernel
theorem dX9_distance_40 : decode cX9_distance 40 = .ok (.iadd, 1) := by decide +kernel
theorem dX9_distance_41 : decode cX9_distance 41 = .ok (.iaload, 1) := by decide +kernel
theorem dX9_distance_42 : decode cX9_distance 42 = .ok (.ldc 136, 2) := by decide +kernel
theorem dX9_distance_44 : decode cX9_distance 44 = .ok (.if_icmp .ge 17, 3) := by decide +kernel
theorem dX9_distance_47 : decode cX9_distance 47 = .ok (.aload_n 0, 1) := by decide +kernel
theorem dX9_distance_48 : decode cX9_distance 48 = .ok (.getfield 60, 3) := by decide +kernel
theorem dX9_distance_51 : decode cX9_distance 51 = .ok (.bipush 10, 2) := by decide +kernel
theorem dX9_distance_53 : decode cX9_distance 53 = .ok (.iload_n 1, 1) := by decide +kernel
theorem dX9_distance_54 : decode cX9_distance 54 = .ok (.imul, 1) := by decide +kernel
theorem dX9_distance_55 : decode cX9_distance 55 = .ok (.iload_n 2, 1) := by decide +kernel
theorem dX9_distance_56 : decode cX9_distance 56 = .ok (.iadd, 1) := by decide +kernel
theorem dX9_distance_57 : decode cX9_distance 57 = .ok (.iaload, 1) := by decide +kernel
theorem dX9_distance_58 : decode cX9_distance 58 = .ok (.goto 4, 3) := by decide +kernel
theorem dX9_distance_61 : decode cX9_distance 61 = .ok (.iconst (-1), 1) := by decide +kernel
theorem dX9_distance_62 : decode cX9_distance 62 = .ok (.ireturn, 1) := by decide +kernel
theorem dX9_distanceByRounds_0 : decode cX9_distanceByRounds 0 = .ok (.aload_n 0, 1) := by decide +kernel
theorem dX9_distanceByRounds_1 : decode cX9_distanceByRounds 1 = .ok (.iload_n 1, 1) := by decide +kernel
theorem dX9_distanceByRounds_2 : decode cX9_distanceByRounds 2 = .ok (.iload_n 2, 1) := by decide +kernel
theorem dX9_distanceByRounds_3 : decode cX9_distanceByRounds 3 = .ok (.invokevirtual 146, 3) := by decide +kernel
theorem dX9_distanceByRounds_6 : decode cX9_distanceByRounds 6 = .ok (.ireturn, 1) := by decide +kernel
theorem dX9_isSideDue_0 : decode cX9_isSideDue 0 = .ok (.iconst 0, 1) := by decide +kernel
theorem dX9_isSideDue_1 : decode cX9_isSideDue 1 = .ok (.istore_n 3, 1) := by decide +kernel
theorem dX9_isSideDue_2 : decode cX9_isSideDue 2 = .ok (.iload_n 3, 1) := by decide +kernel
theorem dX9_isSideDue_3 : decode cX9_isSideDue 3 = .ok (.aload_n 0, 1) := by decide +kernel
theorem dX9_isSideDue_4 : decode cX9_isSideDue 4 = .ok (.getfield 91, 3) := by decide +kernel
theorem dX9_isSideDue_7 : decode cX9_isSideDue 7 = .ok (.if_icmp .ge 39, 3) := by decide +kernel
theorem dX9_isSideDue_10 : decode cX9_isSideDue 10 = .ok (.aload_n 0, 1) := by decide +kernel
theorem dX9_isSideDue_11 : decode cX9_isSideDue 11 = .ok (.getfield 22, 3) := by decide +kernel
theorem dX9_isSideDue_14 : decode cX9_isSideDue 14 = .ok (.iload_n 3, 1) := by decide +kernel
theorem dX9_isSideDue_15 : decode cX9_isSideDue 15 = .ok (.iaload, 1) := by decide +kernel
theorem dX9_isSideDue_16 : decode cX9_isSideDue 16 = .ok (.iload_n 1, 1) := by decide +kernel
theorem dX9_isSideDue_17 : decode cX9_isSideDue 17 = .ok (.if_icmp .ne 23, 3) := by decide +kernel
theorem dX9_isSideDue_20 : decode cX9_isSideDue 20 = .ok (.aload_n 0, 1) := by decide +kernel
theorem dX9_isSideDue_21 : decode cX9_isSideDue 21 = .ok (.getfield 25, 3) := by decide +kernel
theorem dX9_isSideDue_24 : decode cX9_isSideDue 24 = .ok (.iload_n 3, 1) := by decide +kernel
theorem dX9_isSideDue_25 : decode cX9_isSideDue 25 = .ok (.iaload, 1) := by decide +kernel
theorem dX9_isSideDue_26 : decode cX9_isSideDue 26 = .ok (.iload_n 2, 1) := by decide +kernel
theorem dX9_isSideDue_27 : decode cX9_isSideDue 27 = .ok (.if_icmp .ne 13, 3) := by decide +kernel
theorem dX9_isSideDue_30 : decode cX9_isSideDue 30 = .ok (.aload_n 0, 1) := by decide +kernel
theorem dX9_isSideDue_31 : decode cX9_isSideDue 31 = .ok (.iload_n 3, 1) := by decide +kernel
theorem dX9_isSideDue_32 : decode cX9_isSideDue 32 = .ok (.invokevirtual 123, 3) := by decide +kernel
theorem dX9_isSideDue_35 : decode cX9_isSideDue 35 = .ok (.ifCond .eq 5, 3) := by decide +kernel
theorem dX9_isSideDue_38 : decode cX9_isSideDue 38 = .ok (.iconst 1, 1) := by decide +kernel
theorem dX9_isSideDue_39 : decode cX9_isSideDue 39 = .ok (.ireturn, 1) := by decide +kernel
theorem dX9_isSideDue_40 : decode cX9_isSideDue 40 = .ok (.iinc 3 1, 3) := by decide +kernel
theorem dX9_isSideDue_43 : decode cX9_isSideDue 43 = .ok (.goto (-41), 3) := by decide +kernel
theorem dX9_isSideDue_46 : decode cX9_isSideDue 46 = .ok (.iconst 0, 1) := by decide +kernel
theorem dX9_isSideDue_47 : decode cX9_isSideDue 47 = .ok (.ireturn, 1) := by decide +kernel
theorem dX9_needs_0 : decode cX9_needs 0 = .ok (.aload_n 0, 1) := by decide +kernel
theorem dX9_needs_1 : decode cX9_needs 1 = .ok (.getfield 63, 3) := by decide +kernel
theorem dX9_needs_4 : decode cX9_needs 4 = .ok (.aload_n 0, 1) := by decide +kernel
theorem dX9_needs_5 : decode cX9_needs 5 = .ok (.getfield 149, 3) := by decide +kernel
theorem dX9_needs_8 : decode cX9_needs 8 = .ok (.iload_n 1, 1) := by decide +kernel
theorem dX9_needs_9 : decode cX9_needs 9 = .ok (.iastore, 1) := by decide +kernel
theorem dX9_needs_10 : decode cX9_needs 10 = .ok (.aload_n 0, 1) := by decide +kernel
theorem dX9_needs_11 : decode cX9_needs 11 = .ok (.dup, 1) := by decide +kernel
theorem dX9_needs_12 : decode cX9_needs 12 = .ok (.getfield 149, 3) := by decide +kernel
theorem dX9_needs_15 : decode cX9_needs 15 = .ok (.iconst 1, 1) := by decide +kernel
theorem dX9_needs_16 : decode cX9_needs 16 = .ok (.iadd, 1) := by decide +kernel
theorem dX9_needs_17 : decode cX9_needs 17 = .ok (.putfield 149, 3) := by decide +kernel
theorem dX9_needs_20 : decode cX9_needs 20 = .ok (.return_, 1) := by decide +kernel
theorem dX9_findsNeeds_0 : decode cX9_findsNeeds 0 = .ok (.aload_n 0, 1) := by decide +kernel
theorem dX9_findsNeeds_1 : decode cX9_findsNeeds 1 = .ok (.iconst 0, 1) := by decide +kernel
theorem dX9_findsNeeds_2 : decode cX9_findsNeeds 2 = .ok (.putfield 149, 3) := by decide +kernel
theorem dX9_findsNeeds_5 : decode cX9_findsNeeds 5 = .ok (.iconst 0, 1) := by decide +kernel
theorem dX9_findsNeeds_6 : decode cX9_findsNeeds 6 = .ok (.istore_n 2, 1) := by decide +kernel
theorem dX9_findsNeeds_7 : decode cX9_findsNeeds 7 = .ok (.iload_n 2, 1) := by decide +kernel
theorem dX9_findsNeeds_8 : decode cX9_findsNeeds 8 = .ok (.aload_n 0, 1) := by decide +kernel
theorem dX9_findsNeeds_9 : decode cX9_findsNeeds 9 = .ok (.getfield 84, 3) := by decide +kernel
theorem dX9_findsNeeds_12 : decode cX9_findsNeeds 12 = .ok (.if_icmp .ge 102, 3) := by decide +kernel
theorem dX9_findsNeeds_15 : decode cX9_findsNeeds 15 = .ok (.aload_n 0, 1) := by decide +kernel
theorem dX9_findsNeeds_16 : decode cX9_findsNeeds 16 = .ok (.getfield 19, 3) := by decide +kernel
theorem dX9_findsNeeds_19 : decode cX9_findsNeeds 19 = .ok (.iload_n 2, 1) := by decide +kernel
theorem dX9_findsNeeds_20 : decode cX9_findsNeeds 20 = .ok (.iaload, 1) := by decide +kernel
theorem dX9_findsNeeds_21 : decode cX9_findsNeeds 21 = .ok (.ifCond .lt 87, 3) := by decide +kernel
theorem dX9_findsNeeds_24 : decode cX9_findsNeeds 24 = .ok (.iload_n 1, 1) := by decide +kernel
theorem dX9_findsNeeds_25 : decode cX9_findsNeeds 25 = .ok (.aload_n 0, 1) := by decide +kernel
theorem dX9_findsNeeds_26 : decode cX9_findsNeeds 26 = .ok (.getfield 19, 3) := by decide +kernel
theorem dX9_findsNeeds_29 : decode cX9_findsNeeds 29 = .ok (.iload_n 2, 1) := by decide +kernel
theorem dX9_findsNeeds_30 : decode cX9_findsNeeds 30 = .ok (.iaload, 1) := by decide +kernel
theorem dX9_findsNeeds_31 : decode cX9_findsNeeds 31 = .ok (.ishr, 1) := by decide +kernel
theorem dX9_findsNeeds_32 : decode cX9_findsNeeds 32 = .ok (.iconst 1, 1) := by decide +kernel
theorem dX9_findsNeeds_33 : decode cX9_findsNeeds 33 = .ok (.iand, 1) := by decide +kernel
theorem dX9_findsNeeds_34 : decode cX9_findsNeeds 34 = .ok (.ifCond .ne 6, 3) := by decide +kernel
theorem dX9_findsNeeds_37 : decode cX9_findsNeeds 37 = .ok (.goto 71, 3) := by decide +kernel
theorem dX9_findsNeeds_40 : decode cX9_findsNeeds 40 = .ok (.aload_n 0, 1) := by decide +kernel
theorem dX9_findsNeeds_41 : decode cX9_findsNeeds 41 = .ok (.iload_n 2, 1) := by decide +kernel
theorem dX9_findsNeeds_42 : decode cX9_findsNeeds 42 = .ok (.iconst 0, 1) := by decide +kernel
theorem dX9_findsNeeds_43 : decode cX9_findsNeeds 43 = .ok (.invokevirtual 152, 3) := by decide +kernel
theorem dX9_findsNeeds_46 : decode cX9_findsNeeds 46 = .ok (.istore_n 3, 1) := by decide +kernel
theorem dX9_findsNeeds_47 : decode cX9_findsNeeds 47 = .ok (.aload_n 0, 1) := by decide +kernel
theorem dX9_findsNeeds_48 : decode cX9_findsNeeds 48 = .ok (.iload_n 2, 1) := by decide +kernel
theorem dX9_findsNeeds_49 : decode cX9_findsNeeds 49 = .ok (.iconst 1, 1) := by decide +kernel
theorem dX9_findsNeeds_50 : decode cX9_findsNeeds 50 = .ok (.invokevirtual 152, 3) := by decide +kernel
theorem dX9_findsNeeds_53 : decode cX9_findsNeeds 53 = .ok (.istore 4, 2) := by decide +kernel
theorem dX9_findsNeeds_55 : decode cX9_findsNeeds 55 = .ok (.aload_n 0, 1) := by decide +kernel
theorem dX9_findsNeeds_56 : decode cX9_findsNeeds 56 = .ok (.getfield 46, 3) := by decide +kernel
theorem dX9_findsNeeds_59 : decode cX9_findsNeeds 59 = .ok (.iload_n 2, 1) := by decide +kernel
theorem dX9_findsNeeds_60 : decode cX9_findsNeeds 60 = .ok (.baload, 1) := by decide +kernel
theorem dX9_findsNeeds_61 : decode cX9_findsNeeds 61 = .ok (.ifCond .eq 31, 3) := by decide +kernel
theorem dX9_findsNeeds_64 : decode cX9_findsNeeds 64 = .ok (.iload_n 3, 1) := by decide +kernel
theorem dX9_findsNeeds_65 : decode cX9_findsNeeds 65 = .ok (.ifCond .eq 10, 3) := by decide +kernel
theorem dX9_findsNeeds_68 : decode cX9_findsNeeds 68 = .ok (.aload_n 0, 1) := by decide +kernel
theorem dX9_findsNeeds_69 : decode cX9_findsNeeds 69 = .ok (.iconst 2, 1) := by decide +kernel
theorem dX9_findsNeeds_70 : decode cX9_findsNeeds 70 = .ok (.iload_n 2, 1) := by decide +kernel
theorem dX9_findsNeeds_71 : decode cX9_findsNeeds 71 = .ok (.imul, 1) := by decide +kernel
theorem dX9_findsNeeds_72 : decode cX9_findsNeeds 72 = .ok (.invokevirtual 155, 3) := by decide +kernel
theorem dX9_findsNeeds_75 : decode cX9_findsNeeds 75 = .ok (.iload 4, 2) := by decide +kernel
theorem dX9_findsNeeds_77 : decode cX9_findsNeeds 77 = .ok (.ifCond .eq 31, 3) := by decide +kernel
theorem dX9_findsNeeds_80 : decode cX9_findsNeeds 80 = .ok (.aload_n 0, 1) := by decide +kernel
theorem dX9_findsNeeds_81 : decode cX9_findsNeeds 81 = .ok (.iconst 2, 1) := by decide +kernel
theorem dX9_findsNeeds_82 : decode cX9_findsNeeds 82 = .ok (.iload_n 2, 1) := by decide +kernel
theorem dX9_findsNeeds_83 : decode cX9_findsNeeds 83 = .ok (.imul, 1) := by decide +kernel
theorem dX9_findsNeeds_84 : decode cX9_findsNeeds 84 = .ok (.iconst 1, 1) := by decide +kernel
theorem dX9_findsNeeds_85 : decode cX9_findsNeeds 85 = .ok (.iadd, 1) := by decide +kernel
theorem dX9_findsNeeds_86 : decode cX9_findsNeeds 86 = .ok (.invokevirtual 155, 3) := by decide +kernel
theorem dX9_findsNeeds_89 : decode cX9_findsNeeds 89 = .ok (.goto 19, 3) := by decide +kernel
theorem dX9_findsNeeds_92 : decode cX9_findsNeeds 92 = .ok (.iload_n 3, 1) := by decide +kernel
theorem dX9_findsNeeds_93 : decode cX9_findsNeeds 93 = .ok (.ifCond .ne 8, 3) := by decide +kernel
theorem dX9_findsNeeds_96 : decode cX9_findsNeeds 96 = .ok (.iload 4, 2) := by decide +kernel
theorem dX9_findsNeeds_98 : decode cX9_findsNeeds 98 = .ok (.ifCond .eq 10, 3) := by decide +kernel
theorem dX9_findsNeeds_101 : decode cX9_findsNeeds 101 = .ok (.aload_n 0, 1) := by decide +kernel
theorem dX9_findsNeeds_102 : decode cX9_findsNeeds 102 = .ok (.iconst 2, 1) := by decide +kernel
theorem dX9_findsNeeds_103 : decode cX9_findsNeeds 103 = .ok (.iload_n 2, 1) := by decide +kernel
theorem dX9_findsNeeds_104 : decode cX9_findsNeeds 104 = .ok (.imul, 1) := by decide +kernel
theorem dX9_findsNeeds_105 : decode cX9_findsNeeds 105 = .ok (.invokevirtual 155, 3) := by decide +kernel
theorem dX9_findsNeeds_108 : decode cX9_findsNeeds 108 = .ok (.iinc 2 1, 3) := by decide +kernel
theorem dX9_findsNeeds_111 : decode cX9_findsNeeds 111 = .ok (.goto (-104), 3) := by decide +kernel
theorem dX9_findsNeeds_114 : decode cX9_findsNeeds 114 = .ok (.return_, 1) := by decide +kernel
theorem dX9_from_0 : decode cX9_from 0 = .ok (.iload_n 1, 1) := by decide +kernel
theorem dX9_from_1 : decode cX9_from 1 = .ok (.iconst 2, 1) := by decide +kernel
theorem dX9_from_2 : decode cX9_from 2 = .ok (.irem, 1) := by decide +kernel
theorem dX9_from_3 : decode cX9_from 3 = .ok (.ifCond .ne 14, 3) := by decide +kernel
theorem dX9_from_6 : decode cX9_from 6 = .ok (.aload_n 0, 1) := by decide +kernel
theorem dX9_from_7 : decode cX9_from 7 = .ok (.getfield 9, 3) := by decide +kernel
theorem dX9_from_10 : decode cX9_from 10 = .ok (.iload_n 1, 1) := by decide +kernel
theorem dX9_from_11 : decode cX9_from 11 = .ok (.iconst 2, 1) := by decide +kernel
theorem dX9_from_12 : decode cX9_from 12 = .ok (.idiv, 1) := by decide +kernel
theorem dX9_from_13 : decode cX9_from 13 = .ok (.iaload, 1) := by decide +kernel
theorem dX9_from_14 : decode cX9_from 14 = .ok (.goto 11, 3) := by decide +kernel
theorem dX9_from_17 : decode cX9_from 17 = .ok (.aload_n 0, 1) := by decide +kernel
theorem dX9_from_18 : decode cX9_from 18 = .ok (.getfield 13, 3) := by decide +kernel
theorem dX9_from_21 : decode cX9_from 21 = .ok (.iload_n 1, 1) := by decide +kernel
theorem dX9_from_22 : decode cX9_from 22 = .ok (.iconst 2, 1) := by decide +kernel
theorem dX9_from_23 : decode cX9_from 23 = .ok (.idiv, 1) := by decide +kernel
theorem dX9_from_24 : decode cX9_from 24 = .ok (.iaload, 1) := by decide +kernel
theorem dX9_from_25 : decode cX9_from 25 = .ok (.ireturn, 1) := by decide +kernel
theorem dX9_to_0 : decode cX9_to 0 = .ok (.iload_n 1, 1) := by decide +kernel
theorem dX9_to_1 : decode cX9_to 1 = .ok (.iconst 2, 1) := by decide +kernel
theorem dX9_to_2 : decode cX9_to 2 = .ok (.irem, 1) := by decide +kernel
theorem dX9_to_3 : decode cX9_to 3 = .ok (.ifCond .ne 14, 3) := by decide +kernel
theorem dX9_to_6 : decode cX9_to 6 = .ok (.aload_n 0, 1) := by decide +kernel
theorem dX9_to_7 : decode cX9_to 7 = .ok (.getfield 13, 3) := by decide +kernel
theorem dX9_to_10 : decode cX9_to 10 = .ok (.iload_n 1, 1) := by decide +kernel
theorem dX9_to_11 : decode cX9_to 11 = .ok (.iconst 2, 1) := by decide +kernel
theorem dX9_to_12 : decode cX9_to 12 = .ok (.idiv, 1) := by decide +kernel
theorem dX9_to_13 : decode cX9_to 13 = .ok (.iaload, 1) := by decide +kernel
theorem dX9_to_14 : decode cX9_to 14 = .ok (.goto 11, 3) := by decide +kernel
theorem dX9_to_17 : decode cX9_to 17 = .ok (.aload_n 0, 1) := by decide +kernel
theorem dX9_to_18 : decode cX9_to 18 = .ok (.getfield 9, 3) := by decide +kernel
theorem dX9_to_21 : decode cX9_to 21 = .ok (.iload_n 1, 1) := by decide +kernel
theorem dX9_to_22 : decode cX9_to 22 = .ok (.iconst 2, 1) := by decide +kernel
theorem dX9_to_23 : decode cX9_to 23 = .ok (.idiv, 1) := by decide +kernel
theorem dX9_to_24 : decode cX9_to 24 = .ok (.iaload, 1) := by decide +kernel
theorem dX9_to_25 : decode cX9_to 25 = .ok (.ireturn, 1) := by decide +kernel
theorem dX9_needed_0 : decode cX9_needed 0 = .ok (.aload_n 0, 1) := by decide +kernel
theorem dX9_needed_1 : decode cX9_needed 1 = .ok (.iconst 0, 1) := by decide +kernel
theorem dX9_needed_2 : decode cX9_needed 2 = .ok (.putfield 81, 3) := by decide +kernel
theorem dX9_needed_5 : decode cX9_needed 5 = .ok (.aload_n 0, 1) := by decide +kernel
theorem dX9_needed_6 : decode cX9_needed 6 = .ok (.iload_n 1, 1) := by decide +kernel
theorem dX9_needed_7 : decode cX9_needed 7 = .ok (.invokevirtual 111, 3) := by decide +kernel
theorem dX9_needed_10 : decode cX9_needed 10 = .ok (.ifCond .ne 9, 3) := by decide +kernel
theorem dX9_needed_13 : decode cX9_needed 13 = .ok (.aload_n 0, 1) := by decide +kernel
theorem dX9_needed_14 : decode cX9_needed 14 = .ok (.iconst 1, 1) := by decide +kernel
theorem dX9_needed_15 : decode cX9_needed 15 = .ok (.invokevirtual 100, 3) := by decide +kernel
theorem dX9_needed_18 : decode cX9_needed 18 = .ok (.ireturn, 1) := by decide +kernel
theorem dX9_needed_19 : decode cX9_needed 19 = .ok (.aload_n 0, 1) := by decide +kernel
theorem dX9_needed_20 : decode cX9_needed 20 = .ok (.iconst 1, 1) := by decide +kernel
theorem dX9_needed_21 : decode cX9_needed 21 = .ok (.iload_n 1, 1) := by decide +kernel
theorem dX9_needed_22 : decode cX9_needed 22 = .ok (.ishl, 1) := by decide +kernel
theorem dX9_needed_23 : decode cX9_needed 23 = .ok (.invokevirtual 159, 3) := by decide +kernel
theorem dX9_needed_26 : decode cX9_needed 26 = .ok (.aload_n 0, 1) := by decide +kernel
theorem dX9_needed_27 : decode cX9_needed 27 = .ok (.getfield 149, 3) := by decide +kernel
theorem dX9_needed_30 : decode cX9_needed 30 = .ok (.ireturn, 1) := by decide +kernel
theorem dX9_chooses_0 : decode cX9_chooses 0 = .ok (.aload_n 0, 1) := by decide +kernel
theorem dX9_chooses_1 : decode cX9_chooses 1 = .ok (.getfield 72, 3) := by decide +kernel
theorem dX9_chooses_4 : decode cX9_chooses 4 = .ok (.aload_n 0, 1) := by decide +kernel
theorem dX9_chooses_5 : decode cX9_chooses 5 = .ok (.getfield 162, 3) := by decide +kernel
theorem dX9_chooses_8 : decode cX9_chooses 8 = .ok (.iload_n 1, 1) := by decide +kernel
theorem dX9_chooses_9 : decode cX9_chooses 9 = .ok (.iastore, 1) := by decide +kernel
theorem dX9_chooses_10 : decode cX9_chooses 10 = .ok (.aload_n 0, 1) := by decide +kernel
theorem dX9_chooses_11 : decode cX9_chooses 11 = .ok (.getfield 75, 3) := by decide +kernel
theorem dX9_chooses_14 : decode cX9_chooses 14 = .ok (.aload_n 0, 1) := by decide +kernel
theorem dX9_chooses_15 : decode cX9_chooses 15 = .ok (.getfield 162, 3) := by decide +kernel
theorem dX9_chooses_18 : decode cX9_chooses 18 = .ok (.iload_n 2, 1) := by decide +kernel
theorem dX9_chooses_19 : decode cX9_chooses 19 = .ok (.iastore, 1) := by decide +kernel
theorem dX9_chooses_20 : decode cX9_chooses 20 = .ok (.aload_n 0, 1) := by decide +kernel
theorem dX9_chooses_21 : decode cX9_chooses 21 = .ok (.dup, 1) := by decide +kernel
theorem dX9_chooses_22 : decode cX9_chooses 22 = .ok (.getfield 162, 3) := by decide +kernel
theorem dX9_chooses_25 : decode cX9_chooses 25 = .ok (.iconst 1, 1) := by decide +kernel
theorem dX9_chooses_26 : decode cX9_chooses 26 = .ok (.iadd, 1) := by decide +kernel
theorem dX9_chooses_27 : decode cX9_chooses 27 = .ok (.putfield 162, 3) := by decide +kernel
theorem dX9_chooses_30 : decode cX9_chooses 30 = .ok (.return_, 1) := by decide +kernel
theorem dX9_findsChoices_0 : decode cX9_findsChoices 0 = .ok (.aload_n 0, 1) := by decide +kernel
theorem dX9_findsChoices_1 : decode cX9_findsChoices 1 = .ok (.iconst 0, 1) := by decide +kernel
theorem dX9_findsChoices_2 : decode cX9_findsChoices 2 = .ok (.putfield 162, 3) := by decide +kernel
theorem dX9_findsChoices_5 : decode cX9_findsChoices 5 = .ok (.iconst 0, 1) := by decide +kernel
theorem dX9_findsChoices_6 : decode cX9_findsChoices 6 = .ok (.istore_n 1, 1) := by decide +kernel
theorem dX9_findsChoices_7 : decode cX9_findsChoices 7 = .ok (.iload_n 1, 1) := by decide +kernel
theorem dX9_findsChoices_8 : decode cX9_findsChoices 8 = .ok (.aload_n 0, 1) := by decide +kernel
theorem dX9_findsChoices_9 : decode cX9_findsChoices 9 = .ok (.getfield 149, 3) := by decide +kernel
theorem dX9_findsChoices_12 : decode cX9_findsChoices 12 = .ok (.if_icmp .ge 49, 3) := by decide +kernel
theorem dX9_findsChoices_15 : decode cX9_findsChoices 15 = .ok (.aload_n 0, 1) := by decide +kernel
theorem dX9_findsChoices_16 : decode cX9_findsChoices 16 = .ok (.aload_n 0, 1) := by decide +kernel
theorem dX9_findsChoices_17 : decode cX9_findsChoices 17 = .ok (.getfield 63, 3) := by decide +kernel
theorem dX9_findsChoices_20 : decode cX9_findsChoices 20 = .ok (.iload_n 1, 1) := by decide +kernel
theorem dX9_findsChoices_21 : decode cX9_findsChoices 21 = .ok (.iaload, 1) := by decide +kernel
theorem dX9_findsChoices_22 : decode cX9_findsChoices 22 = .ok (.iload_n 1, 1) := by decide +kernel
theorem dX9_findsChoices_23 : decode cX9_findsChoices 23 = .ok (.invokevirtual 165, 3) := by decide +kernel
theorem dX9_findsChoices_26 : decode cX9_findsChoices 26 = .ok (.aload_n 0, 1) := by decide +kernel
theorem dX9_findsChoices_27 : decode cX9_findsChoices 27 = .ok (.getfield 46, 3) := by decide +kernel
theorem dX9_findsChoices_30 : decode cX9_findsChoices 30 = .ok (.aload_n 0, 1) := by decide +kernel
theorem dX9_findsChoices_31 : decode cX9_findsChoices 31 = .ok (.getfield 63, 3) := by decide +kernel
theorem dX9_findsChoices_34 : decode cX9_findsChoices 34 = .ok (.iload_n 1, 1) := by decide +kernel
theorem dX9_findsChoices_35 : decode cX9_findsChoices 35 = .ok (.iaload, 1) := by decide +kernel
theorem dX9_findsChoices_36 : decode cX9_findsChoices 36 = .ok (.iconst 2, 1) := by decide +kernel
theorem dX9_findsChoices_37 : decode cX9_findsChoices 37 = .ok (.idiv, 1) := by decide +kernel
theorem dX9_findsChoices_38 : decode cX9_findsChoices 38 = .ok (.baload, 1) := by decide +kernel
theorem dX9_findsChoices_39 : decode cX9_findsChoices 39 = .ok (.ifCond .ne 16, 3) := by decide +kernel
theorem dX9_findsChoices_42 : decode cX9_findsChoices 42 = .ok (.aload_n 0, 1) := by decide +kernel
theorem dX9_findsChoices_43 : decode cX9_findsChoices 43 = .ok (.aload_n 0, 1) := by decide +kernel
theorem dX9_findsChoices_44 : decode cX9_findsChoices 44 = .ok (.getfield 63, 3) := by decide +kernel
theorem dX9_findsChoices_47 : decode cX9_findsChoices 47 = .ok (.iload_n 1, 1) := by decide +kernel
theorem dX9_findsChoices_48 : decode cX9_findsChoices 48 = .ok (.iaload, 1) := by decide +kernel
theorem dX9_findsChoices_49 : decode cX9_findsChoices 49 = .ok (.iconst 1, 1) := by decide +kernel
theorem dX9_findsChoices_50 : decode cX9_findsChoices 50 = .ok (.iadd, 1) := by decide +kernel
theorem dX9_findsChoices_51 : decode cX9_findsChoices 51 = .ok (.iload_n 1, 1) := by decide +kernel
theorem dX9_findsChoices_52 : decode cX9_findsChoices 52 = .ok (.invokevirtual 165, 3) := by decide +kernel
theorem dX9_findsChoices_55 : decode cX9_findsChoices 55 = .ok (.iinc 1 1, 3) := by decide +kernel
theorem dX9_findsChoices_58 : decode cX9_findsChoices 58 = .ok (.goto (-51), 3) := by decide +kernel
theorem dX9_findsChoices_61 : decode cX9_findsChoices 61 = .ok (.return_, 1) := by decide +kernel
theorem dX9_bestChoice_0 : decode cX9_bestChoice 0 = .ok (.iconst (-1), 1) := by decide +kernel
theorem dX9_bestChoice_1 : decode cX9_bestChoice 1 = .ok (.istore_n 3, 1) := by decide +kernel
theorem dX9_bestChoice_2 : decode cX9_bestChoice 2 = .ok (.aload_n 0, 1) := by decide +kernel
theorem dX9_bestChoice_3 : decode cX9_bestChoice 3 = .ok (.ldc 136, 2) := by decide +kernel
theorem dX9_bestChoice_5 : decode cX9_bestChoice 5 = .ok (.putfield 169, 3) := by decide +kernel
theorem dX9_bestChoice_8 : decode cX9_bestChoice 8 = .ok (.iconst 0, 1) := by decide +kernel
theorem dX9_bestChoice_9 : decode cX9_bestChoice 9 = .ok (.istore 4, 2) := by decide +kernel
theorem dX9_bestChoice_11 : decode cX9_bestChoice 11 = .ok (.iload 4, 2) := by decide +kernel
theorem dX9_bestChoice_13 : decode cX9_bestChoice 13 = .ok (.aload_n 0, 1) := by decide +kernel
theorem dX9_bestChoice_14 : decode cX9_bestChoice 14 = .ok (.getfield 162, 3) := by decide +kernel
theorem dX9_bestChoice_17 : decode cX9_bestChoice 17 = .ok (.if_icmp .ge 118, 3) := by decide +kernel
theorem dX9_bestChoice_20 : decode cX9_bestChoice 20 = .ok (.iload_n 1, 1) := by decide +kernel
theorem dX9_bestChoice_21 : decode cX9_bestChoice 21 = .ok (.aload_n 0, 1) := by decide +kernel
theorem dX9_bestChoice_22 : decode cX9_bestChoice 22 = .ok (.getfield 75, 3) := by decide +kernel
theorem dX9_bestChoice_25 : decode cX9_bestChoice 25 = .ok (.iload 4, 2) := by decide +kernel
theorem dX9_bestChoice_27 : decode cX9_bestChoice 27 = .ok (.iaload, 1) := by decide +kernel
theorem dX9_bestChoice_28 : decode cX9_bestChoice 28 = .ok (.ishr, 1) := by decide +kernel
theorem dX9_bestChoice_29 : decode cX9_bestChoice 29 = .ok (.iconst 1, 1) := by decide +kernel
theorem dX9_bestChoice_30 : decode cX9_bestChoice 30 = .ok (.iand, 1) := by decide +kernel
theorem dX9_bestChoice_31 : decode cX9_bestChoice 31 = .ok (.iconst 1, 1) := by decide +kernel
theorem dX9_bestChoice_32 : decode cX9_bestChoice 32 = .ok (.if_icmp .ne 6, 3) := by decide +kernel
theorem dX9_bestChoice_35 : decode cX9_bestChoice 35 = .ok (.goto 94, 3) := by decide +kernel
theorem dX9_bestChoice_38 : decode cX9_bestChoice 38 = .ok (.aload_n 0, 1) := by decide +kernel
theorem dX9_bestChoice_39 : decode cX9_bestChoice 39 = .ok (.getfield 60, 3) := by decide +kernel
theorem dX9_bestChoice_42 : decode cX9_bestChoice 42 = .ok (.bipush 10, 2) := by decide +kernel
theorem dX9_bestChoice_44 : decode cX9_bestChoice 44 = .ok (.iload_n 2, 1) := by decide +kernel
theorem dX9_bestChoice_45 : decode cX9_bestChoice 45 = .ok (.imul, 1) := by decide +kernel
theorem dX9_bestChoice_46 : decode cX9_bestChoice 46 = .ok (.aload_n 0, 1) := by decide +kernel
theorem dX9_bestChoice_47 : decode cX9_bestChoice 47 = .ok (.aload_n 0, 1) := by decide +kernel
theorem dX9_bestChoice_48 : decode cX9_bestChoice 48 = .ok (.getfield 72, 3) := by decide +kernel
theorem dX9_bestChoice_51 : decode cX9_bestChoice 51 = .ok (.iload 4, 2) := by decide +kernel
theorem dX9_bestChoice_53 : decode cX9_bestChoice 53 = .ok (.iaload, 1) := by decide +kernel
theorem dX9_bestChoice_54 : decode cX9_bestChoice 54 = .ok (.invokevirtual 172, 3) := by decide +kernel
theorem dX9_bestChoice_57 : decode cX9_bestChoice 57 = .ok (.iadd, 1) := by decide +kernel
theorem dX9_bestChoice_58 : decode cX9_bestChoice 58 = .ok (.iaload, 1) := by decide +kernel
theorem dX9_bestChoice_59 : decode cX9_bestChoice 59 = .ok (.aload_n 0, 1) := by decide +kernel
theorem dX9_bestChoice_60 : decode cX9_bestChoice 60 = .ok (.getfield 16, 3) := by decide +kernel
theorem dX9_bestChoice_63 : decode cX9_bestChoice 63 = .ok (.aload_n 0, 1) := by decide +kernel
theorem dX9_bestChoice_64 : decode cX9_bestChoice 64 = .ok (.getfield 72, 3) := by decide +kernel
theorem dX9_bestChoice_67 : decode cX9_bestChoice 67 = .ok (.iload 4, 2) := by decide +kernel
theorem dX9_bestChoice_69 : decode cX9_bestChoice 69 = .ok (.iaload, 1) := by decide +kernel
theorem dX9_bestChoice_70 : decode cX9_bestChoice 70 = .ok (.iconst 2, 1) := by decide +kernel
theorem dX9_bestChoice_71 : decode cX9_bestChoice 71 = .ok (.idiv, 1) := by decide +kernel
theorem dX9_bestChoice_72 : decode cX9_bestChoice 72 = .ok (.iaload, 1) := by decide +kernel
theorem dX9_bestChoice_73 : decode cX9_bestChoice 73 = .ok (.iadd, 1) := by decide +kernel
theorem dX9_bestChoice_74 : decode cX9_bestChoice 74 = .ok (.aload_n 0, 1) := by decide +kernel
theorem dX9_bestChoice_75 : decode cX9_bestChoice 75 = .ok (.getfield 66, 3) := by decide +kernel
theorem dX9_bestChoice_78 : decode cX9_bestChoice 78 = .ok (.bipush 10, 2) := by decide +kernel
theorem dX9_bestChoice_80 : decode cX9_bestChoice 80 = .ok (.iload_n 1, 1) := by decide +kernel
theorem dX9_bestChoice_81 : decode cX9_bestChoice 81 = .ok (.iconst 1, 1) := by decide +kernel
theorem dX9_bestChoice_82 : decode cX9_bestChoice 82 = .ok (.aload_n 0, 1) := by decide +kernel
theorem dX9_bestChoice_83 : decode cX9_bestChoice 83 = .ok (.getfield 75, 3) := by decide +kernel
theorem dX9_bestChoice_86 : decode cX9_bestChoice 86 = .ok (.iload 4, 2) := by decide +kernel
theorem dX9_bestChoice_88 : decode cX9_bestChoice 88 = .ok (.iaload, 1) := by decide +kernel
theorem dX9_bestChoice_89 : decode cX9_bestChoice 89 = .ok (.ishl, 1) := by decide +kernel
theorem dX9_bestChoice_90 : decode cX9_bestChoice 90 = .ok (.ior, 1) := by decide +kernel
theorem dX9_bestChoice_91 : decode cX9_bestChoice 91 = .ok (.imul, 1) := by decide +kernel
theorem dX9_bestChoice_92 : decode cX9_bestChoice 92 = .ok (.aload_n 0, 1) := by decide +kernel
theorem dX9_bestChoice_93 : decode cX9_bestChoice 93 = .ok (.aload_n 0, 1) := by decide +kernel
theorem dX9_bestChoice_94 : decode cX9_bestChoice 94 = .ok (.getfield 72, 3) := by decide +kernel
theorem dX9_bestChoice_97 : decode cX9_bestChoice 97 = .ok (.iload 4, 2) := by decide +kernel
theorem dX9_bestChoice_99 : decode cX9_bestChoice 99 = .ok (.iaload, 1) := by decide +kernel
theorem dX9_bestChoice_100 : decode cX9_bestChoice 100 = .ok (.invokevirtual 175, 3) := by decide +kernel
theorem dX9_bestChoice_103 : decode cX9_bestChoice 103 = .ok (.iadd, 1) := by decide +kernel
theorem dX9_bestChoice_104 : decode cX9_bestChoice 104 = .ok (.iaload, 1) := by decide +kernel
theorem dX9_bestChoice_105 : decode cX9_bestChoice 105 = .ok (.iadd, 1) := by decide +kernel
theorem dX9_bestChoice_106 : decode cX9_bestChoice 106 = .ok (.istore 5, 2) := by decide +kernel
theorem dX9_bestChoice_108 : decode cX9_bestChoice 108 = .ok (.iload 5, 2) := by decide +kernel
theorem dX9_bestChoice_110 : decode cX9_bestChoice 110 = .ok (.aload_n 0, 1) := by decide +kernel
theorem dX9_bestChoice_111 : decode cX9_bestChoice 111 = .ok (.getfield 169, 3) := by decide +kernel
theorem dX9_bestChoice_114 : decode cX9_bestChoice 114 = .ok (.if_icmp .lt 6, 3) := by decide +kernel
theorem dX9_bestChoice_117 : decode cX9_bestChoice 117 = .ok (.goto 12, 3) := by decide +kernel
theorem dX9_bestChoice_120 : decode cX9_bestChoice 120 = .ok (.aload_n 0, 1) := by decide +kernel
theorem dX9_bestChoice_121 : decode cX9_bestChoice 121 = .ok (.iload 5, 2) := by decide +kernel
theorem dX9_bestChoice_123 : decode cX9_bestChoice 123 = .ok (.putfield 169, 3) := by decide +kernel
theorem dX9_bestChoice_126 : decode cX9_bestChoice 126 = .ok (.iload 4, 2) := by decide +kernel
theorem dX9_bestChoice_128 : decode cX9_bestChoice 128 = .ok (.istore_n 3, 1) := by decide +kernel
theorem dX9_bestChoice_129 : decode cX9_bestChoice 129 = .ok (.iinc 4 1, 3) := by decide +kernel
theorem dX9_bestChoice_132 : decode cX9_bestChoice 132 = .ok (.goto (-121), 3) := by decide +kernel
theorem dX9_bestChoice_135 : decode cX9_bestChoice 135 = .ok (.iload_n 3, 1) := by decide +kernel
theorem dX9_bestChoice_136 : decode cX9_bestChoice 136 = .ok (.ireturn, 1) := by decide +kernel
theorem dX9_walks_0 : decode cX9_walks 0 = .ok (.aload_n 0, 1) := by decide +kernel
theorem dX9_walks_1 : decode cX9_walks 1 = .ok (.invokevirtual 143, 3) := by decide +kernel
theorem dX9_walks_4 : decode cX9_walks 4 = .ok (.aload_n 0, 1) := by decide +kernel
theorem dX9_walks_5 : decode cX9_walks 5 = .ok (.iload_n 1, 1) := by decide +kernel
theorem dX9_walks_6 : decode cX9_walks 6 = .ok (.invokevirtual 159, 3) := by decide +kernel
theorem dX9_walks_9 : decode cX9_walks 9 = .ok (.aload_n 0, 1) := by decide +kernel
theorem dX9_walks_10 : decode cX9_walks 10 = .ok (.getfield 149, 3) := by decide +kernel
theorem dX9_walks_13 : decode cX9_walks 13 = .ok (.bipush 8, 2) := by decide +kernel
theorem dX9_walks_15 : decode cX9_walks 15 = .ok (.if_icmp .le 5, 3) := by decide +kernel
theorem dX9_walks_18 : decode cX9_walks 18 = .ok (.iconst 0, 1) := by decide +kernel
theorem dX9_walks_19 : decode cX9_walks 19 = .ok (.ireturn, 1) := by decide +kernel
theorem dX9_walks_20 : decode cX9_walks 20 = .ok (.aload_n 0, 1) := by decide +kernel
theorem dX9_walks_21 : decode cX9_walks 21 = .ok (.invokevirtual 178, 3) := by decide +kernel
theorem dX9_walks_24 : decode cX9_walks 24 = .ok (.iconst 1, 1) := by decide +kernel
theorem dX9_walks_25 : decode cX9_walks 25 = .ok (.aload_n 0, 1) := by decide +kernel
theorem dX9_walks_26 : decode cX9_walks 26 = .ok (.getfield 149, 3) := by decide +kernel
theorem dX9_walks_29 : decode cX9_walks 29 = .ok (.ishl, 1) := by decide +kernel
theorem dX9_walks_30 : decode cX9_walks 30 = .ok (.iconst 1, 1) := by decide +kernel
theorem dX9_walks_31 : decode cX9_walks 31 = .ok (.isub, 1) := by decide +kernel
theorem dX9_walks_32 : decode cX9_walks 32 = .ok (.istore_n 2, 1) := by decide +kernel
theorem dX9_walks_33 : decode cX9_walks 33 = .ok (.iload_n 2, 1) := by decide +kernel
theorem dX9_walks_34 : decode cX9_walks 34 = .ok (.istore_n 3, 1) := by decide +kernel
theorem dX9_walks_35 : decode cX9_walks 35 = .ok (.iload_n 3, 1) := by decide +kernel
theorem dX9_walks_36 : decode cX9_walks 36 = .ok (.ifCond .lt 70, 3) := by decide +kernel
theorem dX9_walks_39 : decode cX9_walks 39 = .ok (.iconst 0, 1) := by decide +kernel
theorem dX9_walks_40 : decode cX9_walks 40 = .ok (.istore 4, 2) := by decide +kernel
theorem dX9_walks_42 : decode cX9_walks 42 = .ok (.iload 4, 2) := by decide +kernel
theorem dX9_walks_44 : decode cX9_walks 44 = .ok (.aload_n 0, 1) := by decide +kernel
theorem dX9_walks_45 : decode cX9_walks 45 = .ok (.getfield 53, 3) := by decide +kernel
theorem dX9_walks_48 : decode cX9_walks 48 = .ok (.if_icmp .ge 52, 3) := by decide +kernel
theorem dX9_walks_51 : decode cX9_walks 51 = .ok (.aload_n 0, 1) := by decide +kernel
theorem dX9_walks_52 : decode cX9_walks 52 = .ok (.iload_n 3, 1) := by decide +kernel
theorem dX9_walks_53 : decode cX9_walks 53 = .ok (.iload 4, 2) := by decide +kernel
theorem dX9_walks_55 : decode cX9_walks 55 = .ok (.invokevirtual 181, 3) := by decide +kernel
theorem dX9_walks_58 : decode cX9_walks 58 = .ok (.istore 5, 2) := by decide +kernel
theorem dX9_walks_60 : decode cX9_walks 60 = .ok (.aload_n 0, 1) := by decide +kernel
theorem dX9_walks_61 : decode cX9_walks 61 = .ok (.getfield 66, 3) := by decide +kernel
theorem dX9_walks_64 : decode cX9_walks 64 = .ok (.bipush 10, 2) := by decide +kernel
theorem dX9_walks_66 : decode cX9_walks 66 = .ok (.iload_n 3, 1) := by decide +kernel
theorem dX9_walks_67 : decode cX9_walks 67 = .ok (.imul, 1) := by decide +kernel
theorem dX9_walks_68 : decode cX9_walks 68 = .ok (.iload 4, 2) := by decide +kernel
theorem dX9_walks_70 : decode cX9_walks 70 = .ok (.iadd, 1) := by decide +kernel
theorem dX9_walks_71 : decode cX9_walks 71 = .ok (.iload_n 3, 1) := by decide +kernel
theorem dX9_walks_72 : decode cX9_walks 72 = .ok (.iload_n 2, 1) := by decide +kernel
theorem dX9_walks_73 : decode cX9_walks 73 = .ok (.if_icmp .ne 16, 3) := by decide +kernel
theorem dX9_walks_76 : decode cX9_walks 76 = .ok (.aload_n 0, 1) := by decide +kernel
theorem dX9_walks_77 : decode cX9_walks 77 = .ok (.getfield 60, 3) := by decide +kernel
theorem dX9_walks_80 : decode cX9_walks 80 = .ok (.bipush 10, 2) := by decide +kernel
theorem dX9_walks_82 : decode cX9_walks 82 = .ok (.iload 4, 2) := by decide +kernel
theorem dX9_walks_84 : decode cX9_walks 84 = .ok (.imul, 1) := by decide +kernel
theorem dX9_walks_85 : decode cX9_walks 85 = .ok (.iaload, 1) := by decide +kernel
theorem dX9_walks_86 : decode cX9_walks 86 = .ok (.goto 7, 3) := by decide +kernel
theorem dX9_walks_89 : decode cX9_walks 89 = .ok (.aload_n 0, 1) := by decide +kernel
theorem dX9_walks_90 : decode cX9_walks 90 = .ok (.getfield 169, 3) := by decide +kernel
theorem dX9_walks_93 : decode cX9_walks 93 = .ok (.iastore, 1) := by decide +kernel
theorem dX9_walks_94 : decode cX9_walks 94 = .ok (.iinc 4 1, 3) := by decide +kernel
theorem dX9_walks_97 : decode cX9_walks 97 = .ok (.goto (-55), 3) := by decide +kernel
theorem dX9_walks_100 : decode cX9_walks 100 = .ok (.iinc 3 (-1), 3) := by decide +kernel
theorem dX9_walks_103 : decode cX9_walks 103 = .ok (.goto (-68), 3) := by decide +kernel
theorem dX9_walks_106 : decode cX9_walks 106 = .ok (.aload_n 0, 1) := by decide +kernel
theorem dX9_walks_107 : decode cX9_walks 107 = .ok (.aload_n 0, 1) := by decide +kernel
theorem dX9_walks_108 : decode cX9_walks 108 = .ok (.getfield 66, 3) := by decide +kernel
theorem dX9_walks_111 : decode cX9_walks 111 = .ok (.iconst 0, 1) := by decide +kernel
theorem dX9_walks_112 : decode cX9_walks 112 = .ok (.iaload, 1) := by decide +kernel
theorem dX9_walks_113 : decode cX9_walks 113 = .ok (.putfield 184, 3) := by decide +kernel
theorem dX9_walks_116 : decode cX9_walks 116 = .ok (.aload_n 0, 1) := by decide +kernel
theorem dX9_walks_117 : decode cX9_walks 117 = .ok (.getfield 184, 3) := by decide +kernel
theorem dX9_walks_120 : decode cX9_walks 120 = .ok (.ldc 136, 2) := by decide +kernel
theorem dX9_walks_122 : decode cX9_walks 122 = .ok (.if_icmp .lt 5, 3) := by decide +kernel
theorem dX9_walks_125 : decode cX9_walks 125 = .ok (.iconst 0, 1) := by decide +kernel
theorem dX9_walks_126 : decode cX9_walks 126 = .ok (.ireturn, 1) := by decide +kernel
theorem dX9_walks_127 : decode cX9_walks 127 = .ok (.iconst 0, 1) := by decide +kernel
theorem dX9_walks_128 : decode cX9_walks 128 = .ok (.istore_n 3, 1) := by decide +kernel
theorem dX9_walks_129 : decode cX9_walks 129 = .ok (.iconst 0, 1) := by decide +kernel
theorem dX9_walks_130 : decode cX9_walks 130 = .ok (.istore 4, 2) := by decide +kernel
theorem dX9_walks_132 : decode cX9_walks 132 = .ok (.iconst 0, 1) := by decide +kernel
theorem dX9_walks_133 : decode cX9_walks 133 = .ok (.istore 5, 2) := by decide +kernel
theorem dX9_walks_135 : decode cX9_walks 135 = .ok (.iload 5, 2) := by decide +kernel
theorem dX9_walks_137 : decode cX9_walks 137 = .ok (.aload_n 0, 1) := by decide +kernel
theorem dX9_walks_138 : decode cX9_walks 138 = .ok (.getfield 149, 3) := by decide +kernel
theorem dX9_walks_141 : decode cX9_walks 141 = .ok (.if_icmp .ge 57, 3) := by decide +kernel
theorem dX9_walks_144 : decode cX9_walks 144 = .ok (.aload_n 0, 1) := by decide +kernel
theorem dX9_walks_145 : decode cX9_walks 145 = .ok (.iload_n 3, 1) := by decide +kernel
theorem dX9_walks_146 : decode cX9_walks 146 = .ok (.iload 4, 2) := by decide +kernel
theorem dX9_walks_148 : decode cX9_walks 148 = .ok (.invokevirtual 181, 3) := by decide +kernel
theorem dX9_walks_151 : decode cX9_walks 151 = .ok (.istore 6, 2) := by decide +kernel
theorem dX9_walks_153 : decode cX9_walks 153 = .ok (.aload_n 0, 1) := by decide +kernel
theorem dX9_walks_154 : decode cX9_walks 154 = .ok (.getfield 69, 3) := by decide +kernel
theorem dX9_walks_157 : decode cX9_walks 157 = .ok (.iload 5, 2) := by decide +kernel
theorem dX9_walks_159 : decode cX9_walks 159 = .ok (.aload_n 0, 1) := by decide +kernel
theorem dX9_walks_160 : decode cX9_walks 160 = .ok (.getfield 72, 3) := by decide +kernel
theorem dX9_walks_163 : decode cX9_walks 163 = .ok (.iload 6, 2) := by decide +kernel
theorem dX9_walks_165 : decode cX9_walks 165 = .ok (.iaload, 1) := by decide +kernel
theorem dX9_walks_166 : decode cX9_walks 166 = .ok (.iastore, 1) := by decide +kernel
theorem dX9_walks_167 : decode cX9_walks 167 = .ok (.iload_n 3, 1) := by decide +kernel
theorem dX9_walks_168 : decode cX9_walks 168 = .ok (.iconst 1, 1) := by decide +kernel
theorem dX9_walks_169 : decode cX9_walks 169 = .ok (.aload_n 0, 1) := by decide +kernel
theorem dX9_walks_170 : decode cX9_walks 170 = .ok (.getfield 75, 3) := by decide +kernel
theorem dX9_walks_173 : decode cX9_walks 173 = .ok (.iload 6, 2) := by decide +kernel
theorem dX9_walks_175 : decode cX9_walks 175 = .ok (.iaload, 1) := by decide +kernel
theorem dX9_walks_176 : decode cX9_walks 176 = .ok (.ishl, 1) := by decide +kernel
theorem dX9_walks_177 : decode cX9_walks 177 = .ok (.ior, 1) := by decide +kernel
theorem dX9_walks_178 : decode cX9_walks 178 = .ok (.istore_n 3, 1) := by decide +kernel
theorem dX9_walks_179 : decode cX9_walks 179 = .ok (.aload_n 0, 1) := by decide +kernel
theorem dX9_walks_180 : decode cX9_walks 180 = .ok (.aload_n 0, 1) := by decide +kernel
theorem dX9_walks_181 : decode cX9_walks 181 = .ok (.getfield 69, 3) := by decide +kernel
theorem dX9_walks_184 : decode cX9_walks 184 = .ok (.iload 5, 2) := by decide +kernel
theorem dX9_walks_186 : decode cX9_walks 186 = .ok (.iaload, 1) := by decide +kernel
theorem dX9_walks_187 : decode cX9_walks 187 = .ok (.invokevirtual 175, 3) := by decide +kernel
theorem dX9_walks_190 : decode cX9_walks 190 = .ok (.istore 4, 2) := by decide +kernel
theorem dX9_walks_192 : decode cX9_walks 192 = .ok (.iinc 5 1, 3) := by decide +kernel
theorem dX9_walks_195 : decode cX9_walks 195 = .ok (.goto (-60), 3) := by decide +kernel
theorem dX9_walks_198 : decode cX9_walks 198 = .ok (.iconst 1, 1) := by decide +kernel
theorem dX9_walks_199 : decode cX9_walks 199 = .ok (.ireturn, 1) := by decide +kernel
theorem dX9_isWalkless_0 : decode cX9_isWalkless 0 = .ok (.aload_n 0, 1) := by decide +kernel
theorem dX9_isWalkless_1 : decode cX9_isWalkless 1 = .ok (.iconst 0, 1) := by decide +kernel
theorem dX9_isWalkless_2 : decode cX9_isWalkless 2 = .ok (.putfield 81, 3) := by decide +kernel
theorem dX9_isWalkless_5 : decode cX9_isWalkless 5 = .ok (.aload_n 0, 1) := by decide +kernel
theorem dX9_isWalkless_6 : decode cX9_isWalkless 6 = .ok (.iload_n 1, 1) := by decide +kernel
theorem dX9_isWalkless_7 : decode cX9_isWalkless 7 = .ok (.invokevirtual 111, 3) := by decide +kernel
theorem dX9_isWalkless_10 : decode cX9_isWalkless 10 = .ok (.ifCond .ne 12, 3) := by decide +kernel
theorem dX9_isWalkless_13 : decode cX9_isWalkless 13 = .ok (.aload_n 0, 1) := by decide +kernel
theorem dX9_isWalkless_14 : decode cX9_isWalkless 14 = .ok (.iconst 1, 1) := by decide +kernel
theorem dX9_isWalkless_15 : decode cX9_isWalkless 15 = .ok (.invokevirtual 100, 3) := by decide +kernel
theorem dX9_isWalkless_18 : decode cX9_isWalkless 18 = .ok (.pop, 1) := by decide +kernel
theorem dX9_isWalkless_19 : decode cX9_isWalkless 19 = .ok (.goto 19, 3) := by decide +kernel
theorem dX9_isWalkless_22 : decode cX9_isWalkless 22 = .ok (.aload_n 0, 1) := by decide +kernel
theorem dX9_isWalkless_23 : decode cX9_isWalkless 23 = .ok (.iconst 1, 1) := by decide +kernel
theorem dX9_isWalkless_24 : decode cX9_isWalkless 24 = .ok (.iload_n 1, 1) := by decide +kernel
theorem dX9_isWalkless_25 : decode cX9_isWalkless 25 = .ok (.ishl, 1) := by decide +kernel
theorem dX9_isWalkless_26 : decode cX9_isWalkless 26 = .ok (.invokevirtual 187, 3) := by decide +kernel
theorem dX9_isWalkless_29 : decode cX9_isWalkless 29 = .ok (.ifCond .ne 9, 3) := by decide +kernel
theorem dX9_isWalkless_32 : decode cX9_isWalkless 32 = .ok (.aload_n 0, 1) := by decide +kernel
theorem dX9_isWalkless_33 : decode cX9_isWalkless 33 = .ok (.iconst 2, 1) := by decide +kernel
theorem dX9_isWalkless_34 : decode cX9_isWalkless 34 = .ok (.invokevirtual 100, 3) := by decide +kernel
theorem dX9_isWalkless_37 : decode cX9_isWalkless 37 = .ok (.pop, 1) := by decide +kernel
theorem dX9_isWalkless_38 : decode cX9_isWalkless 38 = .ok (.aload_n 0, 1) := by decide +kernel
theorem dX9_isWalkless_39 : decode cX9_isWalkless 39 = .ok (.getfield 81, 3) := by decide +kernel
theorem dX9_isWalkless_42 : decode cX9_isWalkless 42 = .ok (.ifCond .le 7, 3) := by decide +kernel
theorem dX9_isWalkless_45 : decode cX9_isWalkless 45 = .ok (.iconst 1, 1) := by decide +kernel
theorem dX9_isWalkless_46 : decode cX9_isWalkless 46 = .ok (.goto 4, 3) := by decide +kernel
theorem dX9_isWalkless_49 : decode cX9_isWalkless 49 = .ok (.iconst 0, 1) := by decide +kernel
theorem dX9_isWalkless_50 : decode cX9_isWalkless 50 = .ok (.ireturn, 1) := by decide +kernel
theorem dX9_hasWalk_0 : decode cX9_hasWalk 0 = .ok (.aload_n 0, 1) := by decide +kernel
theorem dX9_hasWalk_1 : decode cX9_hasWalk 1 = .ok (.iconst 0, 1) := by decide +kernel
theorem dX9_hasWalk_2 : decode cX9_hasWalk 2 = .ok (.putfield 81, 3) := by decide +kernel
theorem dX9_hasWalk_5 : decode cX9_hasWalk 5 = .ok (.aload_n 0, 1) := by decide +kernel
theorem dX9_hasWalk_6 : decode cX9_hasWalk 6 = .ok (.iload_n 1, 1) := by decide +kernel
theorem dX9_hasWalk_7 : decode cX9_hasWalk 7 = .ok (.invokevirtual 111, 3) := by decide +kernel
theorem dX9_hasWalk_10 : decode cX9_hasWalk 10 = .ok (.ifCond .eq 13, 3) := by decide +kernel
theorem dX9_hasWalk_13 : decode cX9_hasWalk 13 = .ok (.aload_n 0, 1) := by decide +kernel
theorem dX9_hasWalk_14 : decode cX9_hasWalk 14 = .ok (.iconst 1, 1) := by decide +kernel
theorem dX9_hasWalk_15 : decode cX9_hasWalk 15 = .ok (.iload_n 1, 1) := by decide +kernel
theorem dX9_hasWalk_16 : decode cX9_hasWalk 16 = .ok (.ishl, 1) := by decide +kernel
theorem dX9_hasWalk_17 : decode cX9_hasWalk 17 = .ok (.invokevirtual 187, 3) := by decide +kernel
theorem dX9_hasWalk_20 : decode cX9_hasWalk 20 = .ok (.goto 16, 3) := by decide +kernel
theorem dX9_hasWalk_23 : decode cX9_hasWalk 23 = .ok (.aload_n 0, 1) := by decide +kernel
theorem dX9_hasWalk_24 : decode cX9_hasWalk 24 = .ok (.iconst 1, 1) := by decide +kernel
theorem dX9_hasWalk_25 : decode cX9_hasWalk 25 = .ok (.invokevirtual 100, 3) := by decide +kernel
theorem dX9_hasWalk_28 : decode cX9_hasWalk 28 = .ok (.ifCond .le 7, 3) := by decide +kernel
theorem dX9_hasWalk_31 : decode cX9_hasWalk 31 = .ok (.iconst 1, 1) := by decide +kernel
theorem dX9_hasWalk_32 : decode cX9_hasWalk 32 = .ok (.goto 4, 3) := by decide +kernel
theorem dX9_hasWalk_35 : decode cX9_hasWalk 35 = .ok (.iconst 0, 1) := by decide +kernel
theorem dX9_hasWalk_36 : decode cX9_hasWalk 36 = .ok (.ireturn, 1) := by decide +kernel
theorem dX9_walkLength_0 : decode cX9_walkLength 0 = .ok (.aload_n 0, 1) := by decide +kernel
theorem dX9_walkLength_1 : decode cX9_walkLength 1 = .ok (.iload_n 1, 1) := by decide +kernel
theorem dX9_walkLength_2 : decode cX9_walkLength 2 = .ok (.invokevirtual 190, 3) := by decide +kernel
theorem dX9_walkLength_5 : decode cX9_walkLength 5 = .ok (.ifCond .eq 7, 3) := by decide +kernel
theorem dX9_walkLength_8 : decode cX9_walkLength 8 = .ok (.iconst 0, 1) := by decide +kernel
theorem dX9_walkLength_9 : decode cX9_walkLength 9 = .ok (.goto 7, 3) := by decide +kernel
theorem dX9_walkLength_12 : decode cX9_walkLength 12 = .ok (.aload_n 0, 1) := by decide +kernel
theorem dX9_walkLength_13 : decode cX9_walkLength 13 = .ok (.getfield 184, 3) := by decide +kernel
theorem dX9_walkLength_16 : decode cX9_walkLength 16 = .ok (.ireturn, 1) := by decide +kernel
theorem dX9_lengthByTrying_0 : decode cX9_lengthByTrying 0 = .ok (.aload_n 0, 1) := by decide +kernel
theorem dX9_lengthByTrying_1 : decode cX9_lengthByTrying 1 = .ok (.iload_n 1, 1) := by decide +kernel
theorem dX9_lengthByTrying_2 : decode cX9_lengthByTrying 2 = .ok (.invokevirtual 190, 3) := by decide +kernel
theorem dX9_lengthByTrying_5 : decode cX9_lengthByTrying 5 = .ok (.ifCond .eq 5, 3) := by decide +kernel
theorem dX9_lengthByTrying_8 : decode cX9_lengthByTrying 8 = .ok (.iconst 0, 1) := by decide +kernel
theorem dX9_lengthByTrying_9 : decode cX9_lengthByTrying 9 = .ok (.ireturn, 1) := by decide +kernel
theorem dX9_lengthByTrying_10 : decode cX9_lengthByTrying 10 = .ok (.aload_n 0, 1) := by decide +kernel
theorem dX9_lengthByTrying_11 : decode cX9_lengthByTrying 11 = .ok (.getfield 149, 3) := by decide +kernel
theorem dX9_lengthByTrying_14 : decode cX9_lengthByTrying 14 = .ok (.iconst 5, 1) := by decide +kernel
theorem dX9_lengthByTrying_15 : decode cX9_lengthByTrying 15 = .ok (.if_icmp .le 11, 3) := by decide +kernel
theorem dX9_lengthByTrying_18 : decode cX9_lengthByTrying 18 = .ok (.aload_n 0, 1) := by decide +kernel
theorem dX9_lengthByTrying_19 : decode cX9_lengthByTrying 19 = .ok (.iconst 3, 1) := by decide +kernel
theorem dX9_lengthByTrying_20 : decode cX9_lengthByTrying 20 = .ok (.invokevirtual 100, 3) := by decide +kernel
theorem dX9_lengthByTrying_23 : decode cX9_lengthByTrying 23 = .ok (.goto 7, 3) := by decide +kernel
theorem dX9_lengthByTrying_26 : decode cX9_lengthByTrying 26 = .ok (.aload_n 0, 1) := by decide +kernel
theorem dX9_lengthByTrying_27 : decode cX9_lengthByTrying 27 = .ok (.getfield 184, 3) := by decide +kernel
theorem dX9_lengthByTrying_30 : decode cX9_lengthByTrying 30 = .ok (.ireturn, 1) := by decide +kernel
theorem dX9_passAt_0 : decode cX9_passAt 0 = .ok (.aload_n 0, 1) := by decide +kernel
theorem dX9_passAt_1 : decode cX9_passAt 1 = .ok (.iload_n 1, 1) := by decide +kernel
theorem dX9_passAt_2 : decode cX9_passAt 2 = .ok (.invokevirtual 190, 3) := by decide +kernel
theorem dX9_passAt_5 : decode cX9_passAt 5 = .ok (.ifCond .eq 5, 3) := by decide +kernel
theorem dX9_passAt_8 : decode cX9_passAt 8 = .ok (.iconst 0, 1) := by decide +kernel
theorem dX9_passAt_9 : decode cX9_passAt 9 = .ok (.ireturn, 1) := by decide +kernel
theorem dX9_passAt_10 : decode cX9_passAt 10 = .ok (.iload_n 2, 1) := by decide +kernel
theorem dX9_passAt_11 : decode cX9_passAt 11 = .ok (.iconst 0, 1) := by decide +kernel
theorem dX9_passAt_12 : decode cX9_passAt 12 = .ok (.aload_n 0, 1) := by decide +kernel
theorem dX9_passAt_13 : decode cX9_passAt 13 = .ok (.getfield 149, 3) := by decide +kernel
theorem dX9_passAt_16 : decode cX9_passAt 16 = .ok (.iconst 1, 1) := by decide +kernel
theorem dX9_passAt_17 : decode cX9_passAt 17 = .ok (.isub, 1) := by decide +kernel
theorem dX9_passAt_18 : decode cX9_passAt 18 = .ok (.invokestatic 87, 3) := by decide +kernel
theorem dX9_passAt_21 : decode cX9_passAt 21 = .ok (.ifCond .eq 12, 3) := by decide +kernel
theorem dX9_passAt_24 : decode cX9_passAt 24 = .ok (.aload_n 0, 1) := by decide +kernel
theorem dX9_passAt_25 : decode cX9_passAt 25 = .ok (.getfield 69, 3) := by decide +kernel
theorem dX9_passAt_28 : decode cX9_passAt 28 = .ok (.iload_n 2, 1) := by decide +kernel
theorem dX9_passAt_29 : decode cX9_passAt 29 = .ok (.iaload, 1) := by decide +kernel
theorem dX9_passAt_30 : decode cX9_passAt 30 = .ok (.goto 8, 3) := by decide +kernel
theorem dX9_passAt_33 : decode cX9_passAt 33 = .ok (.aload_n 0, 1) := by decide +kernel
theorem dX9_passAt_34 : decode cX9_passAt 34 = .ok (.iconst 3, 1) := by decide +kernel
theorem dX9_passAt_35 : decode cX9_passAt 35 = .ok (.invokevirtual 100, 3) := by decide +kernel
theorem dX9_passAt_38 : decode cX9_passAt 38 = .ok (.ireturn, 1) := by decide +kernel
theorem dX9_comesTo_0 : decode cX9_comesTo 0 = .ok (.aload_n 0, 1) := by decide +kernel
theorem dX9_comesTo_1 : decode cX9_comesTo 1 = .ok (.getfield 78, 3) := by decide +kernel
theorem dX9_comesTo_4 : decode cX9_comesTo 4 = .ok (.aload_n 0, 1) := by decide +kernel
theorem dX9_comesTo_5 : decode cX9_comesTo 5 = .ok (.getfield 193, 3) := by decide +kernel
theorem dX9_comesTo_8 : decode cX9_comesTo 8 = .ok (.iload_n 1, 1) := by decide +kernel
theorem dX9_comesTo_9 : decode cX9_comesTo 9 = .ok (.iastore, 1) := by decide +kernel
theorem dX9_comesTo_10 : decode cX9_comesTo 10 = .ok (.aload_n 0, 1) := by decide +kernel
theorem dX9_comesTo_11 : decode cX9_comesTo 11 = .ok (.dup, 1) := by decide +kernel
theorem dX9_comesTo_12 : decode cX9_comesTo 12 = .ok (.getfield 193, 3) := by decide +kernel
theorem dX9_comesTo_15 : decode cX9_comesTo 15 = .ok (.iconst 1, 1) := by decide +kernel
theorem dX9_comesTo_16 : decode cX9_comesTo 16 = .ok (.iadd, 1) := by decide +kernel
theorem dX9_comesTo_17 : decode cX9_comesTo 17 = .ok (.putfield 193, 3) := by decide +kernel
theorem dX9_comesTo_20 : decode cX9_comesTo 20 = .ok (.return_, 1) := by decide +kernel
theorem dX9_shortest_0 : decode cX9_shortest 0 = .ok (.ldc 136, 2) := by decide +kernel
theorem dX9_shortest_2 : decode cX9_shortest 2 = .ok (.istore_n 3, 1) := by decide +kernel
theorem dX9_shortest_3 : decode cX9_shortest 3 = .ok (.iconst 0, 1) := by decide +kernel
theorem dX9_shortest_4 : decode cX9_shortest 4 = .ok (.istore 4, 2) := by decide +kernel
theorem dX9_shortest_6 : decode cX9_shortest 6 = .ok (.iload 4, 2) := by decide +kernel
theorem dX9_shortest_8 : decode cX9_shortest 8 = .ok (.aload_n 0, 1) := by decide +kernel
theorem dX9_shortest_9 : decode cX9_shortest 9 = .ok (.getfield 84, 3) := by decide +kernel
theorem dX9_shortest_12 : decode cX9_shortest 12 = .ok (.if_icmp .ge 65, 3) := by decide +kernel
theorem dX9_shortest_15 : decode cX9_shortest 15 = .ok (.aload_n 0, 1) := by decide +kernel
theorem dX9_shortest_16 : decode cX9_shortest 16 = .ok (.getfield 9, 3) := by decide +kernel
theorem dX9_shortest_19 : decode cX9_shortest 19 = .ok (.iload 4, 2) := by decide +kernel
theorem dX9_shortest_21 : decode cX9_shortest 21 = .ok (.iaload, 1) := by decide +kernel
theorem dX9_shortest_22 : decode cX9_shortest 22 = .ok (.iload_n 1, 1) := by decide +kernel
theorem dX9_shortest_23 : decode cX9_shortest 23 = .ok (.if_icmp .ne 14, 3) := by decide +kernel
theorem dX9_shortest_26 : decode cX9_shortest 26 = .ok (.aload_n 0, 1) := by decide +kernel
theorem dX9_shortest_27 : decode cX9_shortest 27 = .ok (.getfield 13, 3) := by decide +kernel
theorem dX9_shortest_30 : decode cX9_shortest 30 = .ok (.iload 4, 2) := by decide +kernel
theorem dX9_shortest_32 : decode cX9_shortest 32 = .ok (.iaload, 1) := by decide +kernel
theorem dX9_shortest_33 : decode cX9_shortest 33 = .ok (.iload_n 2, 1) := by decide +kernel
theorem dX9_shortest_34 : decode cX9_shortest 34 = .ok (.if_icmp .eq 25, 3) := by decide +kernel
theorem dX9_shortest_37 : decode cX9_shortest 37 = .ok (.aload_n 0, 1) := by decide +kernel
theorem dX9_shortest_38 : decode cX9_shortest 38 = .ok (.getfield 9, 3) := by decide +kernel
theorem dX9_shortest_41 : decode cX9_shortest 41 = .ok (.iload 4, 2) := by decide +kernel
theorem dX9_shortest_43 : decode cX9_shortest 43 = .ok (.iaload, 1) := by decide +kernel
theorem dX9_shortest_44 : decode cX9_shortest 44 = .ok (.iload_n 2, 1) := by decide +kernel
theorem dX9_shortest_45 : decode cX9_shortest 45 = .ok (.if_icmp .ne 26, 3) := by decide +kernel
theorem dX9_shortest_48 : decode cX9_shortest 48 = .ok (.aload_n 0, 1) := by decide +kernel
theorem dX9_shortest_49 : decode cX9_shortest 49 = .ok (.getfield 13, 3) := by decide +kernel
theorem dX9_shortest_52 : decode cX9_shortest 52 = .ok (.iload 4, 2) := by decide +kernel
theorem dX9_shortest_54 : decode cX9_shortest 54 = .ok (.iaload, 1) := by decide +kernel
theorem dX9_shortest_55 : decode cX9_shortest 55 = .ok (.iload_n 1, 1) := by decide +kernel
theorem dX9_shortest_56 : decode cX9_shortest 56 = .ok (.if_icmp .ne 15, 3) := by decide +kernel
theorem dX9_shortest_59 : decode cX9_shortest 59 = .ok (.iload_n 3, 1) := by decide +kernel
theorem dX9_shortest_60 : decode cX9_shortest 60 = .ok (.aload_n 0, 1) := by decide +kernel
theorem dX9_shortest_61 : decode cX9_shortest 61 = .ok (.getfield 16, 3) := by decide +kernel
theorem dX9_shortest_64 : decode cX9_shortest 64 = .ok (.iload 4, 2) := by decide +kernel
theorem dX9_shortest_66 : decode cX9_shortest 66 = .ok (.iaload, 1) := by decide +kernel
theorem dX9_shortest_67 : decode cX9_shortest 67 = .ok (.invokestatic 137, 3) := by decide +kernel
theorem dX9_shortest_70 : decode cX9_shortest 70 = .ok (.istore_n 3, 1) := by decide +kernel
theorem dX9_shortest_71 : decode cX9_shortest 71 = .ok (.iinc 4 1, 3) := by decide +kernel
theorem dX9_shortest_74 : decode cX9_shortest 74 = .ok (.goto (-68), 3) := by decide +kernel
theorem dX9_shortest_77 : decode cX9_shortest 77 = .ok (.iload_n 3, 1) := by decide +kernel
theorem dX9_shortest_78 : decode cX9_shortest 78 = .ok (.ireturn, 1) := by decide +kernel
theorem dX9_goes_0 : decode cX9_goes 0 = .ok (.iload_n 1, 1) := by decide +kernel
theorem dX9_goes_1 : decode cX9_goes 1 = .ok (.istore_n 3, 1) := by decide +kernel
theorem dX9_goes_2 : decode cX9_goes 2 = .ok (.iload_n 3, 1) := by decide +kernel
theorem dX9_goes_3 : decode cX9_goes 3 = .ok (.iload_n 2, 1) := by decide +kernel
theorem dX9_goes_4 : decode cX9_goes 4 = .ok (.if_icmp .eq 64, 3) := by decide +kernel
theorem dX9_goes_7 : decode cX9_goes 7 = .ok (.iconst 0, 1) := by decide +kernel
theorem dX9_goes_8 : decode cX9_goes 8 = .ok (.istore 4, 2) := by decide +kernel
theorem dX9_goes_10 : decode cX9_goes 10 = .ok (.iload 4, 2) := by decide +kernel
theorem dX9_goes_12 : decode cX9_goes 12 = .ok (.iload_n 3, 1) := by decide +kernel
theorem dX9_goes_13 : decode cX9_goes 13 = .ok (.if_icmp .eq 37, 3) := by decide +kernel
theorem dX9_goes_16 : decode cX9_goes 16 = .ok (.aload_n 0, 1) := by decide +kernel
theorem dX9_goes_17 : decode cX9_goes 17 = .ok (.iload_n 3, 1) := by decide +kernel
theorem dX9_goes_18 : decode cX9_goes 18 = .ok (.iload 4, 2) := by decide +kernel
theorem dX9_goes_20 : decode cX9_goes 20 = .ok (.invokevirtual 196, 3) := by decide +kernel
theorem dX9_goes_23 : decode cX9_goes 23 = .ok (.aload_n 0, 1) := by decide +kernel
theorem dX9_goes_24 : decode cX9_goes 24 = .ok (.getfield 60, 3) := by decide +kernel
theorem dX9_goes_27 : decode cX9_goes 27 = .ok (.bipush 10, 2) := by decide +kernel
theorem dX9_goes_29 : decode cX9_goes 29 = .ok (.iload 4, 2) := by decide +kernel
theorem dX9_goes_31 : decode cX9_goes 31 = .ok (.imul, 1) := by decide +kernel
theorem dX9_goes_32 : decode cX9_goes 32 = .ok (.iload_n 2, 1) := by decide +kernel
theorem dX9_goes_33 : decode cX9_goes 33 = .ok (.iadd, 1) := by decide +kernel
theorem dX9_goes_34 : decode cX9_goes 34 = .ok (.iaload, 1) := by decide +kernel
theorem dX9_goes_35 : decode cX9_goes 35 = .ok (.iadd, 1) := by decide +kernel
theorem dX9_goes_36 : decode cX9_goes 36 = .ok (.aload_n 0, 1) := by decide +kernel
theorem dX9_goes_37 : decode cX9_goes 37 = .ok (.getfield 60, 3) := by decide +kernel
theorem dX9_goes_40 : decode cX9_goes 40 = .ok (.bipush 10, 2) := by decide +kernel
theorem dX9_goes_42 : decode cX9_goes 42 = .ok (.iload_n 3, 1) := by decide +kernel
theorem dX9_goes_43 : decode cX9_goes 43 = .ok (.imul, 1) := by decide +kernel
theorem dX9_goes_44 : decode cX9_goes 44 = .ok (.iload_n 2, 1) := by decide +kernel
theorem dX9_goes_45 : decode cX9_goes 45 = .ok (.iadd, 1) := by decide +kernel
theorem dX9_goes_46 : decode cX9_goes 46 = .ok (.iaload, 1) := by decide +kernel
theorem dX9_goes_47 : decode cX9_goes 47 = .ok (.if_icmp .eq 9, 3) := by decide +kernel
theorem dX9_goes_50 : decode cX9_goes 50 = .ok (.iinc 4 1, 3) := by decide +kernel
theorem dX9_goes_53 : decode cX9_goes 53 = .ok (.goto (-43), 3) := by decide +kernel
theorem dX9_goes_56 : decode cX9_goes 56 = .ok (.aload_n 0, 1) := by decide +kernel
theorem dX9_goes_57 : decode cX9_goes 57 = .ok (.iload 4, 2) := by decide +kernel
theorem dX9_goes_59 : decode cX9_goes 59 = .ok (.invokevirtual 199, 3) := by decide +kernel
theorem dX9_goes_62 : decode cX9_goes 62 = .ok (.iload 4, 2) := by decide +kernel
theorem dX9_goes_64 : decode cX9_goes 64 = .ok (.istore_n 3, 1) := by decide +kernel
theorem dX9_goes_65 : decode cX9_goes 65 = .ok (.goto (-63), 3) := by decide +kernel
theorem dX9_goes_68 : decode cX9_goes 68 = .ok (.return_, 1) := by decide +kernel
theorem dX9_findsSteps_0 : decode cX9_findsSteps 0 = .ok (.aload_n 0, 1) := by decide +kernel
theorem dX9_findsSteps_1 : decode cX9_findsSteps 1 = .ok (.iconst 0, 1) := by decide +kernel
theorem dX9_findsSteps_2 : decode cX9_findsSteps 2 = .ok (.putfield 193, 3) := by decide +kernel
theorem dX9_findsSteps_5 : decode cX9_findsSteps 5 = .ok (.aload_n 0, 1) := by decide +kernel
theorem dX9_findsSteps_6 : decode cX9_findsSteps 6 = .ok (.iconst 0, 1) := by decide +kernel
theorem dX9_findsSteps_7 : decode cX9_findsSteps 7 = .ok (.invokevirtual 199, 3) := by decide +kernel
theorem dX9_findsSteps_10 : decode cX9_findsSteps 10 = .ok (.iconst 0, 1) := by decide +kernel
theorem dX9_findsSteps_11 : decode cX9_findsSteps 11 = .ok (.istore_n 1, 1) := by decide +kernel
theorem dX9_findsSteps_12 : decode cX9_findsSteps 12 = .ok (.iconst 0, 1) := by decide +kernel
theorem dX9_findsSteps_13 : decode cX9_findsSteps 13 = .ok (.istore_n 2, 1) := by decide +kernel
theorem dX9_findsSteps_14 : decode cX9_findsSteps 14 = .ok (.iload_n 2, 1) := by decide +kernel
theorem dX9_findsSteps_15 : decode cX9_findsSteps 15 = .ok (.aload_n 0, 1) := by decide +kernel
theorem dX9_findsSteps_16 : decode cX9_findsSteps 16 = .ok (.getfield 149, 3) := by decide +kernel
theorem dX9_findsSteps_19 : decode cX9_findsSteps 19 = .ok (.if_icmp .ge 40, 3) := by decide +kernel
theorem dX9_findsSteps_22 : decode cX9_findsSteps 22 = .ok (.aload_n 0, 1) := by decide +kernel
theorem dX9_findsSteps_23 : decode cX9_findsSteps 23 = .ok (.iload_n 1, 1) := by decide +kernel
theorem dX9_findsSteps_24 : decode cX9_findsSteps 24 = .ok (.aload_n 0, 1) := by decide +kernel
theorem dX9_findsSteps_25 : decode cX9_findsSteps 25 = .ok (.aload_n 0, 1) := by decide +kernel
theorem dX9_findsSteps_26 : decode cX9_findsSteps 26 = .ok (.getfield 69, 3) := by decide +kernel
theorem dX9_findsSteps_29 : decode cX9_findsSteps 29 = .ok (.iload_n 2, 1) := by decide +kernel
theorem dX9_findsSteps_30 : decode cX9_findsSteps 30 = .ok (.iaload, 1) := by decide +kernel
theorem dX9_findsSteps_31 : decode cX9_findsSteps 31 = .ok (.invokevirtual 172, 3) := by decide +kernel
theorem dX9_findsSteps_34 : decode cX9_findsSteps 34 = .ok (.invokevirtual 202, 3) := by decide +kernel
theorem dX9_findsSteps_37 : decode cX9_findsSteps 37 = .ok (.aload_n 0, 1) := by decide +kernel
theorem dX9_findsSteps_38 : decode cX9_findsSteps 38 = .ok (.aload_n 0, 1) := by decide +kernel
theorem dX9_findsSteps_39 : decode cX9_findsSteps 39 = .ok (.getfield 69, 3) := by decide +kernel
theorem dX9_findsSteps_42 : decode cX9_findsSteps 42 = .ok (.iload_n 2, 1) := by decide +kernel
theorem dX9_findsSteps_43 : decode cX9_findsSteps 43 = .ok (.iaload, 1) := by decide +kernel
theorem dX9_findsSteps_44 : decode cX9_findsSteps 44 = .ok (.invokevirtual 175, 3) := by decide +kernel
theorem dX9_findsSteps_47 : decode cX9_findsSteps 47 = .ok (.istore_n 1, 1) := by decide +kernel
theorem dX9_findsSteps_48 : decode cX9_findsSteps 48 = .ok (.aload_n 0, 1) := by decide +kernel
theorem dX9_findsSteps_49 : decode cX9_findsSteps 49 = .ok (.iload_n 1, 1) := by decide +kernel
theorem dX9_findsSteps_50 : decode cX9_findsSteps 50 = .ok (.invokevirtual 199, 3) := by decide +kernel
theorem dX9_findsSteps_53 : decode cX9_findsSteps 53 = .ok (.iinc 2 1, 3) := by decide +kernel
theorem dX9_findsSteps_56 : decode cX9_findsSteps 56 = .ok (.goto (-42), 3) := by decide +kernel
theorem dX9_findsSteps_59 : decode cX9_findsSteps 59 = .ok (.aload_n 0, 1) := by decide +kernel
theorem dX9_findsSteps_60 : decode cX9_findsSteps 60 = .ok (.iload_n 1, 1) := by decide +kernel
theorem dX9_findsSteps_61 : decode cX9_findsSteps 61 = .ok (.iconst 0, 1) := by decide +kernel
theorem dX9_findsSteps_62 : decode cX9_findsSteps 62 = .ok (.invokevirtual 202, 3) := by decide +kernel
theorem dX9_findsSteps_65 : decode cX9_findsSteps 65 = .ok (.return_, 1) := by decide +kernel
theorem dX9_walkPlaces_0 : decode cX9_walkPlaces 0 = .ok (.aload_n 0, 1) := by decide +kernel
theorem dX9_walkPlaces_1 : decode cX9_walkPlaces 1 = .ok (.iload_n 1, 1) := by decide +kernel
theorem dX9_walkPlaces_2 : decode cX9_walkPlaces 2 = .ok (.invokevirtual 190, 3) := by decide +kernel
theorem dX9_walkPlaces_5 : decode cX9_walkPlaces 5 = .ok (.ifCond .eq 5, 3) := by decide +kernel
theorem dX9_walkPlaces_8 : decode cX9_walkPlaces 8 = .ok (.iconst 0, 1) := by decide +kernel
theorem dX9_walkPlaces_9 : decode cX9_walkPlaces 9 = .ok (.ireturn, 1) := by decide +kernel
theorem dX9_walkPlaces_10 : decode cX9_walkPlaces 10 = .ok (.aload_n 0, 1) := by decide +kernel
theorem dX9_walkPlaces_11 : decode cX9_walkPlaces 11 = .ok (.invokevirtual 205, 3) := by decide +kernel
theorem dX9_walkPlaces_14 : decode cX9_walkPlaces 14 = .ok (.aload_n 0, 1) := by decide +kernel
theorem dX9_walkPlaces_15 : decode cX9_walkPlaces 15 = .ok (.getfield 193, 3) := by decide +kernel
theorem dX9_walkPlaces_18 : decode cX9_walkPlaces 18 = .ok (.ireturn, 1) := by decide +kernel
theorem dX9_walkAt_0 : decode cX9_walkAt 0 = .ok (.aload_n 0, 1) := by decide +kernel
theorem dX9_walkAt_1 : decode cX9_walkAt 1 = .ok (.iload_n 1, 1) := by decide +kernel
theorem dX9_walkAt_2 : decode cX9_walkAt 2 = .ok (.invokevirtual 190, 3) := by decide +kernel
theorem dX9_walkAt_5 : decode cX9_walkAt 5 = .ok (.ifCond .eq 5, 3) := by decide +kernel
theorem dX9_walkAt_8 : decode cX9_walkAt 8 = .ok (.iconst 0, 1) := by decide +kernel
theorem dX9_walkAt_9 : decode cX9_walkAt 9 = .ok (.ireturn, 1) := by decide +kernel
theorem dX9_walkAt_10 : decode cX9_walkAt 10 = .ok (.aload_n 0, 1) := by decide +kernel
theorem dX9_walkAt_11 : decode cX9_walkAt 11 = .ok (.invokevirtual 205, 3) := by decide +kernel
theorem dX9_walkAt_14 : decode cX9_walkAt 14 = .ok (.iload_n 2, 1) := by decide +kernel
theorem dX9_walkAt_15 : decode cX9_walkAt 15 = .ok (.iconst 0, 1) := by decide +kernel
theorem dX9_walkAt_16 : decode cX9_walkAt 16 = .ok (.aload_n 0, 1) := by decide +kernel
theorem dX9_walkAt_17 : decode cX9_walkAt 17 = .ok (.getfield 193, 3) := by decide +kernel
theorem dX9_walkAt_20 : decode cX9_walkAt 20 = .ok (.iconst 1, 1) := by decide +kernel
theorem dX9_walkAt_21 : decode cX9_walkAt 21 = .ok (.isub, 1) := by decide +kernel
theorem dX9_walkAt_22 : decode cX9_walkAt 22 = .ok (.invokestatic 87, 3) := by decide +kernel
theorem dX9_walkAt_25 : decode cX9_walkAt 25 = .ok (.ifCond .eq 12, 3) := by decide +kernel
theorem dX9_walkAt_28 : decode cX9_walkAt 28 = .ok (.aload_n 0, 1) := by decide +kernel
theorem dX9_walkAt_29 : decode cX9_walkAt 29 = .ok (.getfield 78, 3) := by decide +kernel
theorem dX9_walkAt_32 : decode cX9_walkAt 32 = .ok (.iload_n 2, 1) := by decide +kernel
theorem dX9_walkAt_33 : decode cX9_walkAt 33 = .ok (.iaload, 1) := by decide +kernel
theorem dX9_walkAt_34 : decode cX9_walkAt 34 = .ok (.goto 8, 3) := by decide +kernel
theorem dX9_walkAt_37 : decode cX9_walkAt 37 = .ok (.aload_n 0, 1) := by decide +kernel
theorem dX9_walkAt_38 : decode cX9_walkAt 38 = .ok (.iconst 3, 1) := by decide +kernel
theorem dX9_walkAt_39 : decode cX9_walkAt 39 = .ok (.invokevirtual 100, 3) := by decide +kernel
theorem dX9_walkAt_42 : decode cX9_walkAt 42 = .ok (.ireturn, 1) := by decide +kernel
theorem dX9_timeOf_0 : decode cX9_timeOf 0 = .ok (.aload_n 0, 1) := by decide +kernel
theorem dX9_timeOf_1 : decode cX9_timeOf 1 = .ok (.getfield 184, 3) := by decide +kernel
theorem dX9_timeOf_4 : decode cX9_timeOf 4 = .ok (.iconst 2, 1) := by decide +kernel
theorem dX9_timeOf_5 : decode cX9_timeOf 5 = .ok (.aload_n 0, 1) := by decide +kernel
theorem dX9_timeOf_6 : decode cX9_timeOf 6 = .ok (.iload_n 1, 1) := by decide +kernel
theorem dX9_timeOf_7 : decode cX9_timeOf 7 = .ok (.invokevirtual 133, 3) := by decide +kernel
theorem dX9_timeOf_10 : decode cX9_timeOf 10 = .ok (.imul, 1) := by decide +kernel
theorem dX9_timeOf_11 : decode cX9_timeOf 11 = .ok (.iadd, 1) := by decide +kernel
theorem dX9_timeOf_12 : decode cX9_timeOf 12 = .ok (.istore_n 2, 1) := by decide +kernel
theorem dX9_timeOf_13 : decode cX9_timeOf 13 = .ok (.iconst 0, 1) := by decide +kernel
theorem dX9_timeOf_14 : decode cX9_timeOf 14 = .ok (.istore_n 3, 1) := by decide +kernel
theorem dX9_timeOf_15 : decode cX9_timeOf 15 = .ok (.iload_n 3, 1) := by decide +kernel
theorem dX9_timeOf_16 : decode cX9_timeOf 16 = .ok (.aload_n 0, 1) := by decide +kernel
theorem dX9_timeOf_17 : decode cX9_timeOf 17 = .ok (.getfield 91, 3) := by decide +kernel
theorem dX9_timeOf_20 : decode cX9_timeOf 20 = .ok (.if_icmp .ge 30, 3) := by decide +kernel
theorem dX9_timeOf_23 : decode cX9_timeOf 23 = .ok (.iload_n 2, 1) := by decide +kernel
theorem dX9_timeOf_24 : decode cX9_timeOf 24 = .ok (.aload_n 0, 1) := by decide +kernel
theorem dX9_timeOf_25 : decode cX9_timeOf 25 = .ok (.iload_n 3, 1) := by decide +kernel
theorem dX9_timeOf_26 : decode cX9_timeOf 26 = .ok (.iload_n 1, 1) := by decide +kernel
theorem dX9_timeOf_27 : decode cX9_timeOf 27 = .ok (.invokevirtual 129, 3) := by decide +kernel
theorem dX9_timeOf_30 : decode cX9_timeOf 30 = .ok (.ifCond .eq 11, 3) := by decide +kernel
theorem dX9_timeOf_33 : decode cX9_timeOf 33 = .ok (.aload_n 0, 1) := by decide +kernel
theorem dX9_timeOf_34 : decode cX9_timeOf 34 = .ok (.iload_n 3, 1) := by decide +kernel
theorem dX9_timeOf_35 : decode cX9_timeOf 35 = .ok (.invokevirtual 120, 3) := by decide +kernel
theorem dX9_timeOf_38 : decode cX9_timeOf 38 = .ok (.goto 4, 3) := by decide +kernel
theorem dX9_timeOf_41 : decode cX9_timeOf 41 = .ok (.iconst 0, 1) := by decide +kernel
theorem dX9_timeOf_42 : decode cX9_timeOf 42 = .ok (.iadd, 1) := by decide +kernel
theorem dX9_timeOf_43 : decode cX9_timeOf 43 = .ok (.istore_n 2, 1) := by decide +kernel
theorem dX9_timeOf_44 : decode cX9_timeOf 44 = .ok (.iinc 3 1, 3) := by decide +kernel
theorem dX9_timeOf_47 : decode cX9_timeOf 47 = .ok (.goto (-32), 3) := by decide +kernel
theorem dX9_timeOf_50 : decode cX9_timeOf 50 = .ok (.iload_n 2, 1) := by decide +kernel
theorem dX9_timeOf_51 : decode cX9_timeOf 51 = .ok (.ireturn, 1) := by decide +kernel
theorem dX9_walkTime_0 : decode cX9_walkTime 0 = .ok (.aload_n 0, 1) := by decide +kernel
theorem dX9_walkTime_1 : decode cX9_walkTime 1 = .ok (.iload_n 1, 1) := by decide +kernel
theorem dX9_walkTime_2 : decode cX9_walkTime 2 = .ok (.invokevirtual 190, 3) := by decide +kernel
theorem dX9_walkTime_5 : decode cX9_walkTime 5 = .ok (.ifCond .eq 7, 3) := by decide +kernel
theorem dX9_walkTime_8 : decode cX9_walkTime 8 = .ok (.iconst 0, 1) := by decide +kernel
theorem dX9_walkTime_9 : decode cX9_walkTime 9 = .ok (.goto 10, 3) := by decide +kernel
theorem dX9_walkTime_12 : decode cX9_walkTime 12 = .ok (.aload_n 0, 1) := by decide +kernel
theorem dX9_walkTime_13 : decode cX9_walkTime 13 = .ok (.iconst 1, 1) := by decide +kernel
theorem dX9_walkTime_14 : decode cX9_walkTime 14 = .ok (.iload_n 1, 1) := by decide +kernel
theorem dX9_walkTime_15 : decode cX9_walkTime 15 = .ok (.ishl, 1) := by decide +kernel
theorem dX9_walkTime_16 : decode cX9_walkTime 16 = .ok (.invokevirtual 208, 3) := by decide +kernel
theorem dX9_walkTime_19 : decode cX9_walkTime 19 = .ok (.ireturn, 1) := by decide +kernel
theorem dX9_isInTime_0 : decode cX9_isInTime 0 = .ok (.aload_n 0, 1) := by decide +kernel
theorem dX9_isInTime_1 : decode cX9_isInTime 1 = .ok (.iconst 0, 1) := by decide +kernel
theorem dX9_isInTime_2 : decode cX9_isInTime 2 = .ok (.putfield 81, 3) := by decide +kernel
theorem dX9_isInTime_5 : decode cX9_isInTime 5 = .ok (.aload_n 0, 1) := by decide +kernel
theorem dX9_isInTime_6 : decode cX9_isInTime 6 = .ok (.iload_n 1, 1) := by decide +kernel
theorem dX9_isInTime_7 : decode cX9_isInTime 7 = .ok (.invokevirtual 111, 3) := by decide +kernel
theorem dX9_isInTime_10 : decode cX9_isInTime 10 = .ok (.ifCond .ne 17, 3) := by decide +kernel
theorem dX9_isInTime_13 : decode cX9_isInTime 13 = .ok (.aload_n 0, 1) := by decide +kernel
theorem dX9_isInTime_14 : decode cX9_isInTime 14 = .ok (.iconst 1, 1) := by decide +kernel
theorem dX9_isInTime_15 : decode cX9_isInTime 15 = .ok (.invokevirtual 100, 3) := by decide +kernel
theorem dX9_isInTime_18 : decode cX9_isInTime 18 = .ok (.ifCond .le 7, 3) := by decide +kernel
theorem dX9_isInTime_21 : decode cX9_isInTime 21 = .ok (.iconst 1, 1) := by decide +kernel
theorem dX9_isInTime_22 : decode cX9_isInTime 22 = .ok (.goto 4, 3) := by decide +kernel
theorem dX9_isInTime_25 : decode cX9_isInTime 25 = .ok (.iconst 0, 1) := by decide +kernel
theorem dX9_isInTime_26 : decode cX9_isInTime 26 = .ok (.ireturn, 1) := by decide +kernel
theorem dX9_isInTime_27 : decode cX9_isInTime 27 = .ok (.aload_n 0, 1) := by decide +kernel
theorem dX9_isInTime_28 : decode cX9_isInTime 28 = .ok (.iconst 1, 1) := by decide +kernel
theorem dX9_isInTime_29 : decode cX9_isInTime 29 = .ok (.iload_n 1, 1) := by decide +kernel
theorem dX9_isInTime_30 : decode cX9_isInTime 30 = .ok (.ishl, 1) := by decide +kernel
theorem dX9_isInTime_31 : decode cX9_isInTime 31 = .ok (.invokevirtual 187, 3) := by decide +kernel
theorem dX9_isInTime_34 : decode cX9_isInTime 34 = .ok (.ifCond .eq 23, 3) := by decide +kernel
theorem dX9_isInTime_37 : decode cX9_isInTime 37 = .ok (.aload_n 0, 1) := by decide +kernel
theorem dX9_isInTime_38 : decode cX9_isInTime 38 = .ok (.iconst 1, 1) := by decide +kernel
theorem dX9_isInTime_39 : decode cX9_isInTime 39 = .ok (.iload_n 1, 1) := by decide +kernel
theorem dX9_isInTime_40 : decode cX9_isInTime 40 = .ok (.ishl, 1) := by decide +kernel
theorem dX9_isInTime_41 : decode cX9_isInTime 41 = .ok (.invokevirtual 208, 3) := by decide +kernel
theorem dX9_isInTime_44 : decode cX9_isInTime 44 = .ok (.aload_n 0, 1) := by decide +kernel
theorem dX9_isInTime_45 : decode cX9_isInTime 45 = .ok (.getfield 34, 3) := by decide +kernel
theorem dX9_isInTime_48 : decode cX9_isInTime 48 = .ok (.iload_n 1, 1) := by decide +kernel
theorem dX9_isInTime_49 : decode cX9_isInTime 49 = .ok (.iaload, 1) := by decide +kernel
theorem dX9_isInTime_50 : decode cX9_isInTime 50 = .ok (.if_icmp .gt 7, 3) := by decide +kernel
theorem dX9_isInTime_53 : decode cX9_isInTime 53 = .ok (.iconst 1, 1) := by decide +kernel
theorem dX9_isInTime_54 : decode cX9_isInTime 54 = .ok (.goto 4, 3) := by decide +kernel
theorem dX9_isInTime_57 : decode cX9_isInTime 57 = .ok (.iconst 0, 1) := by decide +kernel
theorem dX9_isInTime_58 : decode cX9_isInTime 58 = .ok (.ireturn, 1) := by decide +kernel
theorem dX9_passes_0 : decode cX9_passes 0 = .ok (.iload_n 1, 1) := by decide +kernel
theorem dX9_passes_1 : decode cX9_passes 1 = .ok (.iconst 2, 1) := by decide +kernel
theorem dX9_passes_2 : decode cX9_passes 2 = .ok (.idiv, 1) := by decide +kernel
theorem dX9_passes_3 : decode cX9_passes 3 = .ok (.aload_n 0, 1) := by decide +kernel
theorem dX9_passes_4 : decode cX9_passes 4 = .ok (.getfield 22, 3) := by decide +kernel
theorem dX9_passes_7 : decode cX9_passes 7 = .ok (.iload_n 2, 1) := by decide +kernel
theorem dX9_passes_8 : decode cX9_passes 8 = .ok (.iaload, 1) := by decide +kernel
theorem dX9_passes_9 : decode cX9_passes 9 = .ok (.if_icmp .ne 30, 3) := by decide +kernel
theorem dX9_passes_12 : decode cX9_passes 12 = .ok (.aload_n 0, 1) := by decide +kernel
theorem dX9_passes_13 : decode cX9_passes 13 = .ok (.getfield 46, 3) := by decide +kernel
theorem dX9_passes_16 : decode cX9_passes 16 = .ok (.iload_n 1, 1) := by decide +kernel
theorem dX9_passes_17 : decode cX9_passes 17 = .ok (.iconst 2, 1) := by decide +kernel
theorem dX9_passes_18 : decode cX9_passes 18 = .ok (.idiv, 1) := by decide +kernel
theorem dX9_passes_19 : decode cX9_passes 19 = .ok (.baload, 1) := by decide +kernel
theorem dX9_passes_20 : decode cX9_passes 20 = .ok (.ifCond .eq 15, 3) := by decide +kernel
theorem dX9_passes_23 : decode cX9_passes 23 = .ok (.iload_n 1, 1) := by decide +kernel
theorem dX9_passes_24 : decode cX9_passes 24 = .ok (.iconst 2, 1) := by decide +kernel
theorem dX9_passes_25 : decode cX9_passes 25 = .ok (.irem, 1) := by decide +kernel
theorem dX9_passes_26 : decode cX9_passes 26 = .ok (.aload_n 0, 1) := by decide +kernel
theorem dX9_passes_27 : decode cX9_passes 27 = .ok (.getfield 25, 3) := by decide +kernel
theorem dX9_passes_30 : decode cX9_passes 30 = .ok (.iload_n 2, 1) := by decide +kernel
theorem dX9_passes_31 : decode cX9_passes 31 = .ok (.iaload, 1) := by decide +kernel
theorem dX9_passes_32 : decode cX9_passes 32 = .ok (.if_icmp .ne 7, 3) := by decide +kernel
theorem dX9_passes_35 : decode cX9_passes 35 = .ok (.iconst 1, 1) := by decide +kernel
theorem dX9_passes_36 : decode cX9_passes 36 = .ok (.goto 4, 3) := by decide +kernel
theorem dX9_passes_39 : decode cX9_passes 39 = .ok (.iconst 0, 1) := by decide +kernel
theorem dX9_passes_40 : decode cX9_passes 40 = .ok (.ireturn, 1) := by decide +kernel
theorem dX9_walkTo_0 : decode cX9_walkTo 0 = .ok (.aload_n 0, 1) := by decide +kernel
theorem dX9_walkTo_1 : decode cX9_walkTo 1 = .ok (.iconst 0, 1) := by decide +kernel
theorem dX9_walkTo_2 : decode cX9_walkTo 2 = .ok (.putfield 81, 3) := by decide +kernel
theorem dX9_walkTo_5 : decode cX9_walkTo 5 = .ok (.aload_n 0, 1) := by decide +kernel
theorem dX9_walkTo_6 : decode cX9_walkTo 6 = .ok (.iload_n 1, 1) := by decide +kernel
theorem dX9_walkTo_7 : decode cX9_walkTo 7 = .ok (.invokevirtual 114, 3) := by decide +kernel
theorem dX9_walkTo_10 : decode cX9_walkTo 10 = .ok (.ifCond .ne 9, 3) := by decide +kernel
theorem dX9_walkTo_13 : decode cX9_walkTo 13 = .ok (.aload_n 0, 1) := by decide +kernel
theorem dX9_walkTo_14 : decode cX9_walkTo 14 = .ok (.iconst 1, 1) := by decide +kernel
theorem dX9_walkTo_15 : decode cX9_walkTo 15 = .ok (.invokevirtual 100, 3) := by decide +kernel
theorem dX9_walkTo_18 : decode cX9_walkTo 18 = .ok (.ireturn, 1) := by decide +kernel
theorem dX9_walkTo_19 : decode cX9_walkTo 19 = .ok (.aload_n 0, 1) := by decide +kernel
theorem dX9_walkTo_20 : decode cX9_walkTo 20 = .ok (.iload_n 1, 1) := by decide +kernel
theorem dX9_walkTo_21 : decode cX9_walkTo 21 = .ok (.invokevirtual 123, 3) := by decide +kernel
theorem dX9_walkTo_24 : decode cX9_walkTo 24 = .ok (.ifCond .eq 17, 3) := by decide +kernel
theorem dX9_walkTo_27 : decode cX9_walkTo 27 = .ok (.aload_n 0, 1) := by decide +kernel
theorem dX9_walkTo_28 : decode cX9_walkTo 28 = .ok (.getfield 19, 3) := by decide +kernel
theorem dX9_walkTo_31 : decode cX9_walkTo 31 = .ok (.aload_n 0, 1) := by decide +kernel
theorem dX9_walkTo_32 : decode cX9_walkTo 32 = .ok (.getfield 22, 3) := by decide +kernel
theorem dX9_walkTo_35 : decode cX9_walkTo 35 = .ok (.iload_n 1, 1) := by decide +kernel
theorem dX9_walkTo_36 : decode cX9_walkTo 36 = .ok (.iaload, 1) := by decide +kernel
theorem dX9_walkTo_37 : decode cX9_walkTo 37 = .ok (.iaload, 1) := by decide +kernel
theorem dX9_walkTo_38 : decode cX9_walkTo 38 = .ok (.ifCond .ge 9, 3) := by decide +kernel
theorem dX9_walkTo_41 : decode cX9_walkTo 41 = .ok (.aload_n 0, 1) := by decide +kernel
theorem dX9_walkTo_42 : decode cX9_walkTo 42 = .ok (.iconst 2, 1) := by decide +kernel
theorem dX9_walkTo_43 : decode cX9_walkTo 43 = .ok (.invokevirtual 100, 3) := by decide +kernel
theorem dX9_walkTo_46 : decode cX9_walkTo 46 = .ok (.ireturn, 1) := by decide +kernel
theorem dX9_walkTo_47 : decode cX9_walkTo 47 = .ok (.aload_n 0, 1) := by decide +kernel
theorem dX9_walkTo_48 : decode cX9_walkTo 48 = .ok (.iconst 1, 1) := by decide +kernel
theorem dX9_walkTo_49 : decode cX9_walkTo 49 = .ok (.aload_n 0, 1) := by decide +kernel
theorem dX9_walkTo_50 : decode cX9_walkTo 50 = .ok (.getfield 19, 3) := by decide +kernel
theorem dX9_walkTo_53 : decode cX9_walkTo 53 = .ok (.aload_n 0, 1) := by decide +kernel
theorem dX9_walkTo_54 : decode cX9_walkTo 54 = .ok (.getfield 22, 3) := by decide +kernel
theorem dX9_walkTo_57 : decode cX9_walkTo 57 = .ok (.iload_n 1, 1) := by decide +kernel
theorem dX9_walkTo_58 : decode cX9_walkTo 58 = .ok (.iaload, 1) := by decide +kernel
theorem dX9_walkTo_59 : decode cX9_walkTo 59 = .ok (.iaload, 1) := by decide +kernel
theorem dX9_walkTo_60 : decode cX9_walkTo 60 = .ok (.ishl, 1) := by decide +kernel
theorem dX9_walkTo_61 : decode cX9_walkTo 61 = .ok (.invokevirtual 187, 3) := by decide +kernel
theorem dX9_walkTo_64 : decode cX9_walkTo 64 = .ok (.ifCond .ne 9, 3) := by decide +kernel
theorem dX9_walkTo_67 : decode cX9_walkTo 67 = .ok (.aload_n 0, 1) := by decide +kernel
theorem dX9_walkTo_68 : decode cX9_walkTo 68 = .ok (.iconst 3, 1) := by decide +kernel
theorem dX9_walkTo_69 : decode cX9_walkTo 69 = .ok (.invokevirtual 100, 3) := by decide +kernel
theorem dX9_walkTo_72 : decode cX9_walkTo 72 = .ok (.ireturn, 1) := by decide +kernel
theorem dX9_walkTo_73 : decode cX9_walkTo 73 = .ok (.iconst 0, 1) := by decide +kernel
theorem dX9_walkTo_74 : decode cX9_walkTo 74 = .ok (.istore_n 2, 1) := by decide +kernel
theorem dX9_walkTo_75 : decode cX9_walkTo 75 = .ok (.iconst 0, 1) := by decide +kernel
theorem dX9_walkTo_76 : decode cX9_walkTo 76 = .ok (.istore_n 3, 1) := by decide +kernel
theorem dX9_walkTo_77 : decode cX9_walkTo 77 = .ok (.iconst 0, 1) := by decide +kernel
theorem dX9_walkTo_78 : decode cX9_walkTo 78 = .ok (.istore 4, 2) := by decide +kernel
theorem dX9_walkTo_80 : decode cX9_walkTo 80 = .ok (.aload_n 0, 1) := by decide +kernel
theorem dX9_walkTo_81 : decode cX9_walkTo 81 = .ok (.aload_n 0, 1) := by decide +kernel
theorem dX9_walkTo_82 : decode cX9_walkTo 82 = .ok (.getfield 69, 3) := by decide +kernel
theorem dX9_walkTo_85 : decode cX9_walkTo 85 = .ok (.iload 4, 2) := by decide +kernel
theorem dX9_walkTo_87 : decode cX9_walkTo 87 = .ok (.iaload, 1) := by decide +kernel
theorem dX9_walkTo_88 : decode cX9_walkTo 88 = .ok (.iload_n 1, 1) := by decide +kernel
theorem dX9_walkTo_89 : decode cX9_walkTo 89 = .ok (.invokevirtual 211, 3) := by decide +kernel
theorem dX9_walkTo_92 : decode cX9_walkTo 92 = .ok (.ifCond .ne 60, 3) := by decide +kernel
theorem dX9_walkTo_95 : decode cX9_walkTo 95 = .ok (.iload_n 2, 1) := by decide +kernel
theorem dX9_walkTo_96 : decode cX9_walkTo 96 = .ok (.aload_n 0, 1) := by decide +kernel
theorem dX9_walkTo_97 : decode cX9_walkTo 97 = .ok (.getfield 60, 3) := by decide +kernel
theorem dX9_walkTo_100 : decode cX9_walkTo 100 = .ok (.bipush 10, 2) := by decide +kernel
theorem dX9_walkTo_102 : decode cX9_walkTo 102 = .ok (.iload_n 3, 1) := by decide +kernel
theorem dX9_walkTo_103 : decode cX9_walkTo 103 = .ok (.imul, 1) := by decide +kernel
theorem dX9_walkTo_104 : decode cX9_walkTo 104 = .ok (.aload_n 0, 1) := by decide +kernel
theorem dX9_walkTo_105 : decode cX9_walkTo 105 = .ok (.aload_n 0, 1) := by decide +kernel
theorem dX9_walkTo_106 : decode cX9_walkTo 106 = .ok (.getfield 69, 3) := by decide +kernel
theorem dX9_walkTo_109 : decode cX9_walkTo 109 = .ok (.iload 4, 2) := by decide +kernel
theorem dX9_walkTo_111 : decode cX9_walkTo 111 = .ok (.iaload, 1) := by decide +kernel
theorem dX9_walkTo_112 : decode cX9_walkTo 112 = .ok (.invokevirtual 172, 3) := by decide +kernel
theorem dX9_walkTo_115 : decode cX9_walkTo 115 = .ok (.iadd, 1) := by decide +kernel
theorem dX9_walkTo_116 : decode cX9_walkTo 116 = .ok (.iaload, 1) := by decide +kernel
theorem dX9_walkTo_117 : decode cX9_walkTo 117 = .ok (.aload_n 0, 1) := by decide +kernel
theorem dX9_walkTo_118 : decode cX9_walkTo 118 = .ok (.getfield 16, 3) := by decide +kernel
theorem dX9_walkTo_121 : decode cX9_walkTo 121 = .ok (.aload_n 0, 1) := by decide +kernel
theorem dX9_walkTo_122 : decode cX9_walkTo 122 = .ok (.getfield 69, 3) := by decide +kernel
theorem dX9_walkTo_125 : decode cX9_walkTo 125 = .ok (.iload 4, 2) := by decide +kernel
theorem dX9_walkTo_127 : decode cX9_walkTo 127 = .ok (.iaload, 1) := by decide +kernel
theorem dX9_walkTo_128 : decode cX9_walkTo 128 = .ok (.iconst 2, 1) := by decide +kernel
theorem dX9_walkTo_129 : decode cX9_walkTo 129 = .ok (.idiv, 1) := by decide +kernel
theorem dX9_walkTo_130 : decode cX9_walkTo 130 = .ok (.iaload, 1) := by decide +kernel
theorem dX9_walkTo_131 : decode cX9_walkTo 131 = .ok (.iadd, 1) := by decide +kernel
theorem dX9_walkTo_132 : decode cX9_walkTo 132 = .ok (.iadd, 1) := by decide +kernel
theorem dX9_walkTo_133 : decode cX9_walkTo 133 = .ok (.istore_n 2, 1) := by decide +kernel
theorem dX9_walkTo_134 : decode cX9_walkTo 134 = .ok (.aload_n 0, 1) := by decide +kernel
theorem dX9_walkTo_135 : decode cX9_walkTo 135 = .ok (.aload_n 0, 1) := by decide +kernel
theorem dX9_walkTo_136 : decode cX9_walkTo 136 = .ok (.getfield 69, 3) := by decide +kernel
theorem dX9_walkTo_139 : decode cX9_walkTo 139 = .ok (.iload 4, 2) := by decide +kernel
theorem dX9_walkTo_141 : decode cX9_walkTo 141 = .ok (.iaload, 1) := by decide +kernel
theorem dX9_walkTo_142 : decode cX9_walkTo 142 = .ok (.invokevirtual 175, 3) := by decide +kernel
theorem dX9_walkTo_145 : decode cX9_walkTo 145 = .ok (.istore_n 3, 1) := by decide +kernel
theorem dX9_walkTo_146 : decode cX9_walkTo 146 = .ok (.iinc 4 1, 3) := by decide +kernel
theorem dX9_walkTo_149 : decode cX9_walkTo 149 = .ok (.goto (-69), 3) := by decide +kernel
theorem dX9_walkTo_152 : decode cX9_walkTo 152 = .ok (.aload_n 0, 1) := by decide +kernel
theorem dX9_walkTo_153 : decode cX9_walkTo 153 = .ok (.getfield 69, 3) := by decide +kernel
theorem dX9_walkTo_156 : decode cX9_walkTo 156 = .ok (.iload 4, 2) := by decide +kernel
theorem dX9_walkTo_158 : decode cX9_walkTo 158 = .ok (.iaload, 1) := by decide +kernel
theorem dX9_walkTo_159 : decode cX9_walkTo 159 = .ok (.iconst 2, 1) := by decide +kernel
theorem dX9_walkTo_160 : decode cX9_walkTo 160 = .ok (.irem, 1) := by decide +kernel
theorem dX9_walkTo_161 : decode cX9_walkTo 161 = .ok (.ifCond .ne 12, 3) := by decide +kernel
theorem dX9_walkTo_164 : decode cX9_walkTo 164 = .ok (.aload_n 0, 1) := by decide +kernel
theorem dX9_walkTo_165 : decode cX9_walkTo 165 = .ok (.getfield 28, 3) := by decide +kernel
theorem dX9_walkTo_168 : decode cX9_walkTo 168 = .ok (.iload_n 1, 1) := by decide +kernel
theorem dX9_walkTo_169 : decode cX9_walkTo 169 = .ok (.iaload, 1) := by decide +kernel
theorem dX9_walkTo_170 : decode cX9_walkTo 170 = .ok (.goto 24, 3) := by decide +kernel
theorem dX9_walkTo_173 : decode cX9_walkTo 173 = .ok (.aload_n 0, 1) := by decide +kernel
theorem dX9_walkTo_174 : decode cX9_walkTo 174 = .ok (.getfield 16, 3) := by decide +kernel
theorem dX9_walkTo_177 : decode cX9_walkTo 177 = .ok (.aload_n 0, 1) := by decide +kernel
theorem dX9_walkTo_178 : decode cX9_walkTo 178 = .ok (.getfield 69, 3) := by decide +kernel
theorem dX9_walkTo_181 : decode cX9_walkTo 181 = .ok (.iload 4, 2) := by decide +kernel
theorem dX9_walkTo_183 : decode cX9_walkTo 183 = .ok (.iaload, 1) := by decide +kernel
theorem dX9_walkTo_184 : decode cX9_walkTo 184 = .ok (.iconst 2, 1) := by decide +kernel
theorem dX9_walkTo_185 : decode cX9_walkTo 185 = .ok (.idiv, 1) := by decide +kernel
theorem dX9_walkTo_186 : decode cX9_walkTo 186 = .ok (.iaload, 1) := by decide +kernel
theorem dX9_walkTo_187 : decode cX9_walkTo 187 = .ok (.aload_n 0, 1) := by decide +kernel
theorem dX9_walkTo_188 : decode cX9_walkTo 188 = .ok (.getfield 28, 3) := by decide +kernel
theorem dX9_walkTo_191 : decode cX9_walkTo 191 = .ok (.iload_n 1, 1) := by decide +kernel
theorem dX9_walkTo_192 : decode cX9_walkTo 192 = .ok (.iaload, 1) := by decide +kernel
theorem dX9_walkTo_193 : decode cX9_walkTo 193 = .ok (.isub, 1) := by decide +kernel
theorem dX9_walkTo_194 : decode cX9_walkTo 194 = .ok (.istore 5, 2) := by decide +kernel
theorem dX9_walkTo_196 : decode cX9_walkTo 196 = .ok (.iload_n 2, 1) := by decide +kernel
theorem dX9_walkTo_197 : decode cX9_walkTo 197 = .ok (.aload_n 0, 1) := by decide +kernel
theorem dX9_walkTo_198 : decode cX9_walkTo 198 = .ok (.getfield 60, 3) := by decide +kernel
theorem dX9_walkTo_201 : decode cX9_walkTo 201 = .ok (.bipush 10, 2) := by decide +kernel
theorem dX9_walkTo_203 : decode cX9_walkTo 203 = .ok (.iload_n 3, 1) := by decide +kernel
theorem dX9_walkTo_204 : decode cX9_walkTo 204 = .ok (.imul, 1) := by decide +kernel
theorem dX9_walkTo_205 : decode cX9_walkTo 205 = .ok (.aload_n 0, 1) := by decide +kernel
theorem dX9_walkTo_206 : decode cX9_walkTo 206 = .ok (.aload_n 0, 1) := by decide +kernel
theorem dX9_walkTo_207 : decode cX9_walkTo 207 = .ok (.getfield 69, 3) := by decide +kernel
theorem dX9_walkTo_210 : decode cX9_walkTo 210 = .ok (.iload 4, 2) := by decide +kernel
theorem dX9_walkTo_212 : decode cX9_walkTo 212 = .ok (.iaload, 1) := by decide +kernel
theorem dX9_walkTo_213 : decode cX9_walkTo 213 = .ok (.invokevirtual 172, 3) := by decide +kernel
theorem dX9_walkTo_216 : decode cX9_walkTo 216 = .ok (.iadd, 1) := by decide +kernel
theorem dX9_walkTo_217 : decode cX9_walkTo 217 = .ok (.iaload, 1) := by decide +kernel
theorem dX9_walkTo_218 : decode cX9_walkTo 218 = .ok (.iadd, 1) := by decide +kernel
theorem dX9_walkTo_219 : decode cX9_walkTo 219 = .ok (.iload 5, 2) := by decide +kernel
theorem dX9_walkTo_221 : decode cX9_walkTo 221 = .ok (.iadd, 1) := by decide +kernel
theorem dX9_walkTo_222 : decode cX9_walkTo 222 = .ok (.ireturn, 1) := by decide +kernel
theorem dX9_deliver_0 : decode cX9_deliver 0 = .ok (.aload_n 0, 1) := by decide +kernel
theorem dX9_deliver_1 : decode cX9_deliver 1 = .ok (.iconst 0, 1) := by decide +kernel
theorem dX9_deliver_2 : decode cX9_deliver 2 = .ok (.putfield 81, 3) := by decide +kernel
theorem dX9_deliver_5 : decode cX9_deliver 5 = .ok (.aload_n 0, 1) := by decide +kernel
theorem dX9_deliver_6 : decode cX9_deliver 6 = .ok (.iload_n 1, 1) := by decide +kernel
theorem dX9_deliver_7 : decode cX9_deliver 7 = .ok (.invokevirtual 111, 3) := by decide +kernel
theorem dX9_deliver_10 : decode cX9_deliver 10 = .ok (.ifCond .ne 9, 3) := by decide +kernel
theorem dX9_deliver_13 : decode cX9_deliver 13 = .ok (.aload_n 0, 1) := by decide +kernel
theorem dX9_deliver_14 : decode cX9_deliver 14 = .ok (.iconst 1, 1) := by decide +kernel
theorem dX9_deliver_15 : decode cX9_deliver 15 = .ok (.invokevirtual 100, 3) := by decide +kernel
theorem dX9_deliver_18 : decode cX9_deliver 18 = .ok (.ireturn, 1) := by decide +kernel
theorem dX9_deliver_19 : decode cX9_deliver 19 = .ok (.iconst 1, 1) := by decide +kernel
theorem dX9_deliver_20 : decode cX9_deliver 20 = .ok (.iload_n 1, 1) := by decide +kernel
theorem dX9_deliver_21 : decode cX9_deliver 21 = .ok (.ishl, 1) := by decide +kernel
theorem dX9_deliver_22 : decode cX9_deliver 22 = .ok (.istore_n 2, 1) := by decide +kernel
theorem dX9_deliver_23 : decode cX9_deliver 23 = .ok (.aload_n 0, 1) := by decide +kernel
theorem dX9_deliver_24 : decode cX9_deliver 24 = .ok (.iload_n 2, 1) := by decide +kernel
theorem dX9_deliver_25 : decode cX9_deliver 25 = .ok (.invokevirtual 187, 3) := by decide +kernel
theorem dX9_deliver_28 : decode cX9_deliver 28 = .ok (.ifCond .eq 17, 3) := by decide +kernel
theorem dX9_deliver_31 : decode cX9_deliver 31 = .ok (.aload_n 0, 1) := by decide +kernel
theorem dX9_deliver_32 : decode cX9_deliver 32 = .ok (.iload_n 2, 1) := by decide +kernel
theorem dX9_deliver_33 : decode cX9_deliver 33 = .ok (.invokevirtual 208, 3) := by decide +kernel
theorem dX9_deliver_36 : decode cX9_deliver 36 = .ok (.aload_n 0, 1) := by decide +kernel
theorem dX9_deliver_37 : decode cX9_deliver 37 = .ok (.getfield 34, 3) := by decide +kernel
theorem dX9_deliver_40 : decode cX9_deliver 40 = .ok (.iload_n 1, 1) := by decide +kernel
theorem dX9_deliver_41 : decode cX9_deliver 41 = .ok (.iaload, 1) := by decide +kernel
theorem dX9_deliver_42 : decode cX9_deliver 42 = .ok (.if_icmp .le 9, 3) := by decide +kernel
theorem dX9_deliver_45 : decode cX9_deliver 45 = .ok (.aload_n 0, 1) := by decide +kernel
theorem dX9_deliver_46 : decode cX9_deliver 46 = .ok (.iconst 2, 1) := by decide +kernel
theorem dX9_deliver_47 : decode cX9_deliver 47 = .ok (.invokevirtual 100, 3) := by decide +kernel
theorem dX9_deliver_50 : decode cX9_deliver 50 = .ok (.ireturn, 1) := by decide +kernel
theorem dX9_deliver_51 : decode cX9_deliver 51 = .ok (.aload_n 0, 1) := by decide +kernel
theorem dX9_deliver_52 : decode cX9_deliver 52 = .ok (.iload_n 2, 1) := by decide +kernel
theorem dX9_deliver_53 : decode cX9_deliver 53 = .ok (.invokevirtual 133, 3) := by decide +kernel
theorem dX9_deliver_56 : decode cX9_deliver 56 = .ok (.istore_n 3, 1) := by decide +kernel
theorem dX9_deliver_57 : decode cX9_deliver 57 = .ok (.iconst 0, 1) := by decide +kernel
theorem dX9_deliver_58 : decode cX9_deliver 58 = .ok (.istore 4, 2) := by decide +kernel
theorem dX9_deliver_60 : decode cX9_deliver 60 = .ok (.iload 4, 2) := by decide +kernel
theorem dX9_deliver_62 : decode cX9_deliver 62 = .ok (.aload_n 0, 1) := by decide +kernel
theorem dX9_deliver_63 : decode cX9_deliver 63 = .ok (.getfield 97, 3) := by decide +kernel
theorem dX9_deliver_66 : decode cX9_deliver 66 = .ok (.if_icmp .ge 48, 3) := by decide +kernel
theorem dX9_deliver_69 : decode cX9_deliver 69 = .ok (.aload_n 0, 1) := by decide +kernel
theorem dX9_deliver_70 : decode cX9_deliver 70 = .ok (.getfield 50, 3) := by decide +kernel
theorem dX9_deliver_73 : decode cX9_deliver 73 = .ok (.iload 4, 2) := by decide +kernel
theorem dX9_deliver_75 : decode cX9_deliver 75 = .ok (.dup2, 1) := by decide +kernel
theorem dX9_deliver_76 : decode cX9_deliver 76 = .ok (.baload, 1) := by decide +kernel
theorem dX9_deliver_77 : decode cX9_deliver 77 = .ok (.aload_n 0, 1) := by decide +kernel
theorem dX9_deliver_78 : decode cX9_deliver 78 = .ok (.aload_n 0, 1) := by decide +kernel
theorem dX9_deliver_79 : decode cX9_deliver 79 = .ok (.getfield 37, 3) := by decide +kernel
theorem dX9_deliver_82 : decode cX9_deliver 82 = .ok (.iload 4, 2) := by decide +kernel
theorem dX9_deliver_84 : decode cX9_deliver 84 = .ok (.iaload, 1) := by decide +kernel
theorem dX9_deliver_85 : decode cX9_deliver 85 = .ok (.iload_n 2, 1) := by decide +kernel
theorem dX9_deliver_86 : decode cX9_deliver 86 = .ok (.invokevirtual 129, 3) := by decide +kernel
theorem dX9_deliver_89 : decode cX9_deliver 89 = .ok (.ifCond .eq 16, 3) := by decide +kernel
theorem dX9_deliver_92 : decode cX9_deliver 92 = .ok (.aload_n 0, 1) := by decide +kernel
theorem dX9_deliver_93 : decode cX9_deliver 93 = .ok (.iload 4, 2) := by decide +kernel
theorem dX9_deliver_95 : decode cX9_deliver 95 = .ok (.invokevirtual 117, 3) := by decide +kernel
theorem dX9_deliver_98 : decode cX9_deliver 98 = .ok (.ifCond .eq 7, 3) := by decide +kernel
theorem dX9_deliver_101 : decode cX9_deliver 101 = .ok (.iconst 1, 1) := by decide +kernel
theorem dX9_deliver_102 : decode cX9_deliver 102 = .ok (.goto 4, 3) := by decide +kernel
theorem dX9_deliver_105 : decode cX9_deliver 105 = .ok (.iconst 0, 1) := by decide +kernel
theorem dX9_deliver_106 : decode cX9_deliver 106 = .ok (.ior, 1) := by decide +kernel
theorem dX9_deliver_107 : decode cX9_deliver 107 = .ok (.bastore, 1) := by decide +kernel
theorem dX9_deliver_108 : decode cX9_deliver 108 = .ok (.iinc 4 1, 3) := by decide +kernel
theorem dX9_deliver_111 : decode cX9_deliver 111 = .ok (.goto (-51), 3) := by decide +kernel
theorem dX9_deliver_114 : decode cX9_deliver 114 = .ok (.iconst 0, 1) := by decide +kernel
theorem dX9_deliver_115 : decode cX9_deliver 115 = .ok (.istore 4, 2) := by decide +kernel
theorem dX9_deliver_117 : decode cX9_deliver 117 = .ok (.iload 4, 2) := by decide +kernel
theorem dX9_deliver_119 : decode cX9_deliver 119 = .ok (.aload_n 0, 1) := by decide +kernel
theorem dX9_deliver_120 : decode cX9_deliver 120 = .ok (.getfield 91, 3) := by decide +kernel
theorem dX9_deliver_123 : decode cX9_deliver 123 = .ok (.if_icmp .ge 37, 3) := by decide +kernel
theorem dX9_deliver_126 : decode cX9_deliver 126 = .ok (.aload_n 0, 1) := by decide +kernel
theorem dX9_deliver_127 : decode cX9_deliver 127 = .ok (.getfield 31, 3) := by decide +kernel
theorem dX9_deliver_130 : decode cX9_deliver 130 = .ok (.iload 4, 2) := by decide +kernel
theorem dX9_deliver_132 : decode cX9_deliver 132 = .ok (.aload_n 0, 1) := by decide +kernel
theorem dX9_deliver_133 : decode cX9_deliver 133 = .ok (.iload 4, 2) := by decide +kernel
theorem dX9_deliver_135 : decode cX9_deliver 135 = .ok (.iload_n 2, 1) := by decide +kernel
theorem dX9_deliver_136 : decode cX9_deliver 136 = .ok (.invokevirtual 129, 3) := by decide +kernel
theorem dX9_deliver_139 : decode cX9_deliver 139 = .ok (.ifCond .eq 7, 3) := by decide +kernel
theorem dX9_deliver_142 : decode cX9_deliver 142 = .ok (.iconst 0, 1) := by decide +kernel
theorem dX9_deliver_143 : decode cX9_deliver 143 = .ok (.goto 10, 3) := by decide +kernel
theorem dX9_deliver_146 : decode cX9_deliver 146 = .ok (.aload_n 0, 1) := by decide +kernel
theorem dX9_deliver_147 : decode cX9_deliver 147 = .ok (.getfield 31, 3) := by decide +kernel
theorem dX9_deliver_150 : decode cX9_deliver 150 = .ok (.iload 4, 2) := by decide +kernel
theorem dX9_deliver_152 : decode cX9_deliver 152 = .ok (.iaload, 1) := by decide +kernel
theorem dX9_deliver_153 : decode cX9_deliver 153 = .ok (.iastore, 1) := by decide +kernel
theorem dX9_deliver_154 : decode cX9_deliver 154 = .ok (.iinc 4 1, 3) := by decide +kernel
theorem dX9_deliver_157 : decode cX9_deliver 157 = .ok (.goto (-40), 3) := by decide +kernel
theorem dX9_deliver_160 : decode cX9_deliver 160 = .ok (.aload_n 0, 1) := by decide +kernel
theorem dX9_deliver_161 : decode cX9_deliver 161 = .ok (.dup, 1) := by decide +kernel
theorem dX9_deliver_162 : decode cX9_deliver 162 = .ok (.getfield 214, 3) := by decide +kernel
theorem dX9_deliver_165 : decode cX9_deliver 165 = .ok (.aload_n 0, 1) := by decide +kernel
theorem dX9_deliver_166 : decode cX9_deliver 166 = .ok (.getfield 184, 3) := by decide +kernel
theorem dX9_deliver_169 : decode cX9_deliver 169 = .ok (.i2l, 1) := by decide +kernel
theorem dX9_deliver_170 : decode cX9_deliver 170 = .ok (.ladd, 1) := by decide +kernel
theorem dX9_deliver_171 : decode cX9_deliver 171 = .ok (.putfield 214, 3) := by decide +kernel
theorem dX9_deliver_174 : decode cX9_deliver 174 = .ok (.iload_n 3, 1) := by decide +kernel
theorem dX9_deliver_175 : decode cX9_deliver 175 = .ok (.ireturn, 1) := by decide +kernel
theorem dX9_savingBy_0 : decode cX9_savingBy 0 = .ok (.aload_n 0, 1) := by decide +kernel
theorem dX9_savingBy_1 : decode cX9_savingBy 1 = .ok (.iconst 1, 1) := by decide +kernel
theorem dX9_savingBy_2 : decode cX9_savingBy 2 = .ok (.iload_n 1, 1) := by decide +kernel
theorem dX9_savingBy_3 : decode cX9_savingBy 3 = .ok (.ishl, 1) := by decide +kernel
theorem dX9_savingBy_4 : decode cX9_savingBy 4 = .ok (.invokevirtual 187, 3) := by decide +kernel
theorem dX9_savingBy_7 : decode cX9_savingBy 7 = .ok (.ifCond .ne 9, 3) := by decide +kernel
theorem dX9_savingBy_10 : decode cX9_savingBy 10 = .ok (.aload_n 0, 1) := by decide +kernel
theorem dX9_savingBy_11 : decode cX9_savingBy 11 = .ok (.iconst 3, 1) := by decide +kernel
theorem dX9_savingBy_12 : decode cX9_savingBy 12 = .ok (.invokevirtual 100, 3) := by decide +kernel
theorem dX9_savingBy_15 : decode cX9_savingBy 15 = .ok (.ireturn, 1) := by decide +kernel
theorem dX9_savingBy_16 : decode cX9_savingBy 16 = .ok (.aload_n 0, 1) := by decide +kernel
theorem dX9_savingBy_17 : decode cX9_savingBy 17 = .ok (.getfield 184, 3) := by decide +kernel
theorem dX9_savingBy_20 : decode cX9_savingBy 20 = .ok (.istore_n 3, 1) := by decide +kernel
theorem dX9_savingBy_21 : decode cX9_savingBy 21 = .ok (.aload_n 0, 1) := by decide +kernel
theorem dX9_savingBy_22 : decode cX9_savingBy 22 = .ok (.iconst 1, 1) := by decide +kernel
theorem dX9_savingBy_23 : decode cX9_savingBy 23 = .ok (.iload_n 2, 1) := by decide +kernel
theorem dX9_savingBy_24 : decode cX9_savingBy 24 = .ok (.ishl, 1) := by decide +kernel
theorem dX9_savingBy_25 : decode cX9_savingBy 25 = .ok (.invokevirtual 187, 3) := by decide +kernel
theorem dX9_savingBy_28 : decode cX9_savingBy 28 = .ok (.ifCond .ne 9, 3) := by decide +kernel
theorem dX9_savingBy_31 : decode cX9_savingBy 31 = .ok (.aload_n 0, 1) := by decide +kernel
theorem dX9_savingBy_32 : decode cX9_savingBy 32 = .ok (.iconst 3, 1) := by decide +kernel
theorem dX9_savingBy_33 : decode cX9_savingBy 33 = .ok (.invokevirtual 100, 3) := by decide +kernel
theorem dX9_savingBy_36 : decode cX9_savingBy 36 = .ok (.ireturn, 1) := by decide +kernel
theorem dX9_savingBy_37 : decode cX9_savingBy 37 = .ok (.iload_n 3, 1) := by decide +kernel
theorem dX9_savingBy_38 : decode cX9_savingBy 38 = .ok (.aload_n 0, 1) := by decide +kernel
theorem dX9_savingBy_39 : decode cX9_savingBy 39 = .ok (.getfield 184, 3) := by decide +kernel
theorem dX9_savingBy_42 : decode cX9_savingBy 42 = .ok (.iadd, 1) := by decide +kernel
theorem dX9_savingBy_43 : decode cX9_savingBy 43 = .ok (.istore_n 3, 1) := by decide +kernel
theorem dX9_savingBy_44 : decode cX9_savingBy 44 = .ok (.aload_n 0, 1) := by decide +kernel
theorem dX9_savingBy_45 : decode cX9_savingBy 45 = .ok (.iconst 1, 1) := by decide +kernel
theorem dX9_savingBy_46 : decode cX9_savingBy 46 = .ok (.iload_n 1, 1) := by decide +kernel
theorem dX9_savingBy_47 : decode cX9_savingBy 47 = .ok (.ishl, 1) := by decide +kernel
theorem dX9_savingBy_48 : decode cX9_savingBy 48 = .ok (.iconst 1, 1) := by decide +kernel
theorem dX9_savingBy_49 : decode cX9_savingBy 49 = .ok (.iload_n 2, 1) := by decide +kernel
theorem dX9_savingBy_50 : decode cX9_savingBy 50 = .ok (.ishl, 1) := by decide +kernel
theorem dX9_savingBy_51 : decode cX9_savingBy 51 = .ok (.ior, 1) := by decide +kernel
theorem dX9_savingBy_52 : decode cX9_savingBy 52 = .ok (.invokevirtual 187, 3) := by decide +kernel
theorem dX9_savingBy_55 : decode cX9_savingBy 55 = .ok (.ifCond .ne 9, 3) := by decide +kernel
theorem dX9_savingBy_58 : decode cX9_savingBy 58 = .ok (.aload_n 0, 1) := by decide +kernel
theorem dX9_savingBy_59 : decode cX9_savingBy 59 = .ok (.iconst 3, 1) := by decide +kernel
theorem dX9_savingBy_60 : decode cX9_savingBy 60 = .ok (.invokevirtual 100, 3) := by decide +kernel
theorem dX9_savingBy_63 : decode cX9_savingBy 63 = .ok (.ireturn, 1) := by decide +kernel
theorem dX9_savingBy_64 : decode cX9_savingBy 64 = .ok (.iload_n 3, 1) := by decide +kernel
theorem dX9_savingBy_65 : decode cX9_savingBy 65 = .ok (.aload_n 0, 1) := by decide +kernel
theorem dX9_savingBy_66 : decode cX9_savingBy 66 = .ok (.getfield 184, 3) := by decide +kernel
theorem dX9_savingBy_69 : decode cX9_savingBy 69 = .ok (.isub, 1) := by decide +kernel
theorem dX9_savingBy_70 : decode cX9_savingBy 70 = .ok (.ireturn, 1) := by decide +kernel
theorem dX9_saving_0 : decode cX9_saving 0 = .ok (.aload_n 0, 1) := by decide +kernel
theorem dX9_saving_1 : decode cX9_saving 1 = .ok (.iconst 0, 1) := by decide +kernel
theorem dX9_saving_2 : decode cX9_saving 2 = .ok (.putfield 81, 3) := by decide +kernel
theorem dX9_saving_5 : decode cX9_saving 5 = .ok (.aload_n 0, 1) := by decide +kernel
theorem dX9_saving_6 : decode cX9_saving 6 = .ok (.iload_n 1, 1) := by decide +kernel
theorem dX9_saving_7 : decode cX9_saving 7 = .ok (.invokevirtual 111, 3) := by decide +kernel
theorem dX9_saving_10 : decode cX9_saving 10 = .ok (.ifCond .eq 11, 3) := by decide +kernel
theorem dX9_saving_13 : decode cX9_saving 13 = .ok (.aload_n 0, 1) := by decide +kernel
theorem dX9_saving_14 : decode cX9_saving 14 = .ok (.iload_n 2, 1) := by decide +kernel
theorem dX9_saving_15 : decode cX9_saving 15 = .ok (.invokevirtual 111, 3) := by decide +kernel
theorem dX9_saving_18 : decode cX9_saving 18 = .ok (.ifCond .ne 9, 3) := by decide +kernel
theorem dX9_saving_21 : decode cX9_saving 21 = .ok (.aload_n 0, 1) := by decide +kernel
theorem dX9_saving_22 : decode cX9_saving 22 = .ok (.iconst 1, 1) := by decide +kernel
theorem dX9_saving_23 : decode cX9_saving 23 = .ok (.invokevirtual 100, 3) := by decide +kernel
theorem dX9_saving_26 : decode cX9_saving 26 = .ok (.ireturn, 1) := by decide +kernel
theorem dX9_saving_27 : decode cX9_saving 27 = .ok (.iload_n 1, 1) := by decide +kernel
theorem dX9_saving_28 : decode cX9_saving 28 = .ok (.iload_n 2, 1) := by decide +kernel
theorem dX9_saving_29 : decode cX9_saving 29 = .ok (.if_icmp .ne 11, 3) := by decide +kernel
theorem dX9_saving_32 : decode cX9_saving 32 = .ok (.aload_n 0, 1) := by decide +kernel
theorem dX9_saving_33 : decode cX9_saving 33 = .ok (.iconst 2, 1) := by decide +kernel
theorem dX9_saving_34 : decode cX9_saving 34 = .ok (.invokevirtual 100, 3) := by decide +kernel
theorem dX9_saving_37 : decode cX9_saving 37 = .ok (.goto 9, 3) := by decide +kernel
theorem dX9_saving_40 : decode cX9_saving 40 = .ok (.aload_n 0, 1) := by decide +kernel
theorem dX9_saving_41 : decode cX9_saving 41 = .ok (.iload_n 1, 1) := by decide +kernel
theorem dX9_saving_42 : decode cX9_saving 42 = .ok (.iload_n 2, 1) := by decide +kernel
theorem dX9_saving_43 : decode cX9_saving 43 = .ok (.invokevirtual 218, 3) := by decide +kernel
theorem dX9_saving_46 : decode cX9_saving 46 = .ok (.ireturn, 1) := by decide +kernel
theorem dX9_mergeInto_0 : decode cX9_mergeInto 0 = .ok (.aload_n 0, 1) := by decide +kernel
theorem dX9_mergeInto_1 : decode cX9_mergeInto 1 = .ok (.iload_n 1, 1) := by decide +kernel
theorem dX9_mergeInto_2 : decode cX9_mergeInto 2 = .ok (.iload_n 2, 1) := by decide +kernel
theorem dX9_mergeInto_3 : decode cX9_mergeInto 3 = .ok (.invokevirtual 221, 3) := by decide +kernel
theorem dX9_mergeInto_6 : decode cX9_mergeInto 6 = .ok (.istore_n 3, 1) := by decide +kernel
theorem dX9_mergeInto_7 : decode cX9_mergeInto 7 = .ok (.aload_n 0, 1) := by decide +kernel
theorem dX9_mergeInto_8 : decode cX9_mergeInto 8 = .ok (.getfield 81, 3) := by decide +kernel
theorem dX9_mergeInto_11 : decode cX9_mergeInto 11 = .ok (.ifCond .le 5, 3) := by decide +kernel
theorem dX9_mergeInto_14 : decode cX9_mergeInto 14 = .ok (.iconst 0, 1) := by decide +kernel
theorem dX9_mergeInto_15 : decode cX9_mergeInto 15 = .ok (.ireturn, 1) := by decide +kernel
theorem dX9_mergeInto_16 : decode cX9_mergeInto 16 = .ok (.aload_n 0, 1) := by decide +kernel
theorem dX9_mergeInto_17 : decode cX9_mergeInto 17 = .ok (.iconst 1, 1) := by decide +kernel
theorem dX9_mergeInto_18 : decode cX9_mergeInto 18 = .ok (.iload_n 1, 1) := by decide +kernel
theorem dX9_mergeInto_19 : decode cX9_mergeInto 19 = .ok (.ishl, 1) := by decide +kernel
theorem dX9_mergeInto_20 : decode cX9_mergeInto 20 = .ok (.iconst 1, 1) := by decide +kernel
theorem dX9_mergeInto_21 : decode cX9_mergeInto 21 = .ok (.iload_n 2, 1) := by decide +kernel
theorem dX9_mergeInto_22 : decode cX9_mergeInto 22 = .ok (.ishl, 1) := by decide +kernel
theorem dX9_mergeInto_23 : decode cX9_mergeInto 23 = .ok (.ior, 1) := by decide +kernel
theorem dX9_mergeInto_24 : decode cX9_mergeInto 24 = .ok (.invokevirtual 208, 3) := by decide +kernel
theorem dX9_mergeInto_27 : decode cX9_mergeInto 27 = .ok (.aload_n 0, 1) := by decide +kernel
theorem dX9_mergeInto_28 : decode cX9_mergeInto 28 = .ok (.getfield 34, 3) := by decide +kernel
theorem dX9_mergeInto_31 : decode cX9_mergeInto 31 = .ok (.iload_n 1, 1) := by decide +kernel
theorem dX9_mergeInto_32 : decode cX9_mergeInto 32 = .ok (.iaload, 1) := by decide +kernel
theorem dX9_mergeInto_33 : decode cX9_mergeInto 33 = .ok (.if_icmp .le 9, 3) := by decide +kernel
theorem dX9_mergeInto_36 : decode cX9_mergeInto 36 = .ok (.aload_n 0, 1) := by decide +kernel
theorem dX9_mergeInto_37 : decode cX9_mergeInto 37 = .ok (.iconst 3, 1) := by decide +kernel
theorem dX9_mergeInto_38 : decode cX9_mergeInto 38 = .ok (.invokevirtual 100, 3) := by decide +kernel
theorem dX9_mergeInto_41 : decode cX9_mergeInto 41 = .ok (.ireturn, 1) := by decide +kernel
theorem dX9_mergeInto_42 : decode cX9_mergeInto 42 = .ok (.iconst 0, 1) := by decide +kernel
theorem dX9_mergeInto_43 : decode cX9_mergeInto 43 = .ok (.istore 4, 2) := by decide +kernel
theorem dX9_mergeInto_45 : decode cX9_mergeInto 45 = .ok (.iload 4, 2) := by decide +kernel
theorem dX9_mergeInto_47 : decode cX9_mergeInto 47 = .ok (.aload_n 0, 1) := by decide +kernel
theorem dX9_mergeInto_48 : decode cX9_mergeInto 48 = .ok (.getfield 84, 3) := by decide +kernel
theorem dX9_mergeInto_51 : decode cX9_mergeInto 51 = .ok (.if_icmp .ge 38, 3) := by decide +kernel
theorem dX9_mergeInto_54 : decode cX9_mergeInto 54 = .ok (.aload_n 0, 1) := by decide +kernel
theorem dX9_mergeInto_55 : decode cX9_mergeInto 55 = .ok (.getfield 19, 3) := by decide +kernel
theorem dX9_mergeInto_58 : decode cX9_mergeInto 58 = .ok (.iload 4, 2) := by decide +kernel
theorem dX9_mergeInto_60 : decode cX9_mergeInto 60 = .ok (.aload_n 0, 1) := by decide +kernel
theorem dX9_mergeInto_61 : decode cX9_mergeInto 61 = .ok (.getfield 19, 3) := by decide +kernel
theorem dX9_mergeInto_64 : decode cX9_mergeInto 64 = .ok (.iload 4, 2) := by decide +kernel
theorem dX9_mergeInto_66 : decode cX9_mergeInto 66 = .ok (.iaload, 1) := by decide +kernel
theorem dX9_mergeInto_67 : decode cX9_mergeInto 67 = .ok (.iload_n 2, 1) := by decide +kernel
theorem dX9_mergeInto_68 : decode cX9_mergeInto 68 = .ok (.if_icmp .ne 7, 3) := by decide +kernel
theorem dX9_mergeInto_71 : decode cX9_mergeInto 71 = .ok (.iload_n 1, 1) := by decide +kernel
theorem dX9_mergeInto_72 : decode cX9_mergeInto 72 = .ok (.goto 10, 3) := by decide +kernel
theorem dX9_mergeInto_75 : decode cX9_mergeInto 75 = .ok (.aload_n 0, 1) := by decide +kernel
theorem dX9_mergeInto_76 : decode cX9_mergeInto 76 = .ok (.getfield 19, 3) := by decide +kernel
theorem dX9_mergeInto_79 : decode cX9_mergeInto 79 = .ok (.iload 4, 2) := by decide +kernel
theorem dX9_mergeInto_81 : decode cX9_mergeInto 81 = .ok (.iaload, 1) := by decide +kernel
theorem dX9_mergeInto_82 : decode cX9_mergeInto 82 = .ok (.iastore, 1) := by decide +kernel
theorem dX9_mergeInto_83 : decode cX9_mergeInto 83 = .ok (.iinc 4 1, 3) := by decide +kernel
theorem dX9_mergeInto_86 : decode cX9_mergeInto 86 = .ok (.goto (-41), 3) := by decide +kernel
theorem dX9_mergeInto_89 : decode cX9_mergeInto 89 = .ok (.iload_n 3, 1) := by decide +kernel
theorem dX9_mergeInto_90 : decode cX9_mergeInto 90 = .ok (.ireturn, 1) := by decide +kernel
theorem dX9_bestMerge_0 : decode cX9_bestMerge 0 = .ok (.iconst (-1), 1) := by decide +kernel
theorem dX9_bestMerge_1 : decode cX9_bestMerge 1 = .ok (.istore_n 1, 1) := by decide +kernel
theorem dX9_bestMerge_2 : decode cX9_bestMerge 2 = .ok (.iconst 0, 1) := by decide +kernel
theorem dX9_bestMerge_3 : decode cX9_bestMerge 3 = .ok (.istore_n 2, 1) := by decide +kernel
theorem dX9_bestMerge_4 : decode cX9_bestMerge 4 = .ok (.iconst 0, 1) := by decide +kernel
theorem dX9_bestMerge_5 : decode cX9_bestMerge 5 = .ok (.istore_n 3, 1) := by decide +kernel
theorem dX9_bestMerge_6 : decode cX9_bestMerge 6 = .ok (.iload_n 3, 1) := by decide +kernel
theorem dX9_bestMerge_7 : decode cX9_bestMerge 7 = .ok (.aload_n 0, 1) := by decide +kernel
theorem dX9_bestMerge_8 : decode cX9_bestMerge 8 = .ok (.getfield 94, 3) := by decide +kernel
theorem dX9_bestMerge_11 : decode cX9_bestMerge 11 = .ok (.if_icmp .ge 83, 3) := by decide +kernel
theorem dX9_bestMerge_14 : decode cX9_bestMerge 14 = .ok (.iconst 0, 1) := by decide +kernel
theorem dX9_bestMerge_15 : decode cX9_bestMerge 15 = .ok (.istore 4, 2) := by decide +kernel
theorem dX9_bestMerge_17 : decode cX9_bestMerge 17 = .ok (.iload 4, 2) := by decide +kernel
theorem dX9_bestMerge_19 : decode cX9_bestMerge 19 = .ok (.aload_n 0, 1) := by decide +kernel
theorem dX9_bestMerge_20 : decode cX9_bestMerge 20 = .ok (.getfield 94, 3) := by decide +kernel
theorem dX9_bestMerge_23 : decode cX9_bestMerge 23 = .ok (.if_icmp .ge 65, 3) := by decide +kernel
theorem dX9_bestMerge_26 : decode cX9_bestMerge 26 = .ok (.aload_n 0, 1) := by decide +kernel
theorem dX9_bestMerge_27 : decode cX9_bestMerge 27 = .ok (.iload_n 3, 1) := by decide +kernel
theorem dX9_bestMerge_28 : decode cX9_bestMerge 28 = .ok (.iload 4, 2) := by decide +kernel
theorem dX9_bestMerge_30 : decode cX9_bestMerge 30 = .ok (.invokevirtual 221, 3) := by decide +kernel
theorem dX9_bestMerge_33 : decode cX9_bestMerge 33 = .ok (.istore 5, 2) := by decide +kernel
theorem dX9_bestMerge_35 : decode cX9_bestMerge 35 = .ok (.aload_n 0, 1) := by decide +kernel
theorem dX9_bestMerge_36 : decode cX9_bestMerge 36 = .ok (.getfield 81, 3) := by decide +kernel
theorem dX9_bestMerge_39 : decode cX9_bestMerge 39 = .ok (.ifCond .gt 43, 3) := by decide +kernel
theorem dX9_bestMerge_42 : decode cX9_bestMerge 42 = .ok (.iload 5, 2) := by decide +kernel
theorem dX9_bestMerge_44 : decode cX9_bestMerge 44 = .ok (.iload_n 2, 1) := by decide +kernel
theorem dX9_bestMerge_45 : decode cX9_bestMerge 45 = .ok (.if_icmp .le 37, 3) := by decide +kernel
theorem dX9_bestMerge_48 : decode cX9_bestMerge 48 = .ok (.aload_n 0, 1) := by decide +kernel
theorem dX9_bestMerge_49 : decode cX9_bestMerge 49 = .ok (.iconst 1, 1) := by decide +kernel
theorem dX9_bestMerge_50 : decode cX9_bestMerge 50 = .ok (.iload_n 3, 1) := by decide +kernel
theorem dX9_bestMerge_51 : decode cX9_bestMerge 51 = .ok (.ishl, 1) := by decide +kernel
theorem dX9_bestMerge_52 : decode cX9_bestMerge 52 = .ok (.iconst 1, 1) := by decide +kernel
theorem dX9_bestMerge_53 : decode cX9_bestMerge 53 = .ok (.iload 4, 2) := by decide +kernel
theorem dX9_bestMerge_55 : decode cX9_bestMerge 55 = .ok (.ishl, 1) := by decide +kernel
theorem dX9_bestMerge_56 : decode cX9_bestMerge 56 = .ok (.ior, 1) := by decide +kernel
theorem dX9_bestMerge_57 : decode cX9_bestMerge 57 = .ok (.invokevirtual 208, 3) := by decide +kernel
theorem dX9_bestMerge_60 : decode cX9_bestMerge 60 = .ok (.aload_n 0, 1) := by decide +kernel
theorem dX9_bestMerge_61 : decode cX9_bestMerge 61 = .ok (.getfield 34, 3) := by decide +kernel
theorem dX9_bestMerge_64 : decode cX9_bestMerge 64 = .ok (.iload_n 3, 1) := by decide +kernel
theorem dX9_bestMerge_65 : decode cX9_bestMerge 65 = .ok (.iaload, 1) := by decide +kernel
theorem dX9_bestMerge_66 : decode cX9_bestMerge 66 = .ok (.if_icmp .le 6, 3) := by decide +kernel
theorem dX9_bestMerge_69 : decode cX9_bestMerge 69 = .ok (.goto 13, 3) := by decide +kernel
theorem dX9_bestMerge_72 : decode cX9_bestMerge 72 = .ok (.iload 5, 2) := by decide +kernel
theorem dX9_bestMerge_74 : decode cX9_bestMerge 74 = .ok (.istore_n 2, 1) := by decide +kernel
theorem dX9_bestMerge_75 : decode cX9_bestMerge 75 = .ok (.iconst 4, 1) := by decide +kernel
theorem dX9_bestMerge_76 : decode cX9_bestMerge 76 = .ok (.iload_n 3, 1) := by decide +kernel
theorem dX9_bestMerge_77 : decode cX9_bestMerge 77 = .ok (.imul, 1) := by decide +kernel
theorem dX9_bestMerge_78 : decode cX9_bestMerge 78 = .ok (.iload 4, 2) := by decide +kernel
theorem dX9_bestMerge_80 : decode cX9_bestMerge 80 = .ok (.iadd, 1) := by decide +kernel
theorem dX9_bestMerge_81 : decode cX9_bestMerge 81 = .ok (.istore_n 1, 1) := by decide +kernel
theorem dX9_bestMerge_82 : decode cX9_bestMerge 82 = .ok (.iinc 4 1, 3) := by decide +kernel
theorem dX9_bestMerge_85 : decode cX9_bestMerge 85 = .ok (.goto (-68), 3) := by decide +kernel
theorem dX9_bestMerge_88 : decode cX9_bestMerge 88 = .ok (.iinc 3 1, 3) := by decide +kernel
theorem dX9_bestMerge_91 : decode cX9_bestMerge 91 = .ok (.goto (-85), 3) := by decide +kernel
theorem dX9_bestMerge_94 : decode cX9_bestMerge 94 = .ok (.aload_n 0, 1) := by decide +kernel
theorem dX9_bestMerge_95 : decode cX9_bestMerge 95 = .ok (.iconst 0, 1) := by decide +kernel
theorem dX9_bestMerge_96 : decode cX9_bestMerge 96 = .ok (.putfield 81, 3) := by decide +kernel
theorem dX9_bestMerge_99 : decode cX9_bestMerge 99 = .ok (.iload_n 1, 1) := by decide +kernel
theorem dX9_bestMerge_100 : decode cX9_bestMerge 100 = .ok (.ifCond .ge 11, 3) := by decide +kernel
theorem dX9_bestMerge_103 : decode cX9_bestMerge 103 = .ok (.aload_n 0, 1) := by decide +kernel
theorem dX9_bestMerge_104 : decode cX9_bestMerge 104 = .ok (.iconst 1, 1) := by decide +kernel
theorem dX9_bestMerge_105 : decode cX9_bestMerge 105 = .ok (.invokevirtual 100, 3) := by decide +kernel
theorem dX9_bestMerge_108 : decode cX9_bestMerge 108 = .ok (.goto 4, 3) := by decide +kernel
theorem dX9_bestMerge_111 : decode cX9_bestMerge 111 = .ok (.iload_n 1, 1) := by decide +kernel
theorem dX9_bestMerge_112 : decode cX9_bestMerge 112 = .ok (.ireturn, 1) := by decide +kernel
theorem dX9_parcelState_0 : decode cX9_parcelState 0 = .ok (.aload_n 0, 1) := by decide +kernel
theorem dX9_parcelState_1 : decode cX9_parcelState 1 = .ok (.iconst 0, 1) := by decide +kernel
theorem dX9_parcelState_2 : decode cX9_parcelState 2 = .ok (.putfield 81, 3) := by decide +kernel
theorem dX9_parcelState_5 : decode cX9_parcelState 5 = .ok (.aload_n 0, 1) := by decide +kernel
theorem dX9_parcelState_6 : decode cX9_parcelState 6 = .ok (.iload_n 1, 1) := by decide +kernel
theorem dX9_parcelState_7 : decode cX9_parcelState 7 = .ok (.invokevirtual 224, 3) := by decide +kernel
theorem dX9_parcelState_10 : decode cX9_parcelState 10 = .ok (.ifCond .ne 10, 3) := by decide +kernel
theorem dX9_parcelState_13 : decode cX9_parcelState 13 = .ok (.aload_n 0, 1) := by decide +kernel
theorem dX9_parcelState_14 : decode cX9_parcelState 14 = .ok (.iconst 1, 1) := by decide +kernel
theorem dX9_parcelState_15 : decode cX9_parcelState 15 = .ok (.invokevirtual 100, 3) := by decide +kernel
theorem dX9_parcelState_18 : decode cX9_parcelState 18 = .ok (.i2c, 1) := by decide +kernel
theorem dX9_parcelState_19 : decode cX9_parcelState 19 = .ok (.ireturn, 1) := by decide +kernel
theorem dX9_parcelState_20 : decode cX9_parcelState 20 = .ok (.aload_n 0, 1) := by decide +kernel
theorem dX9_parcelState_21 : decode cX9_parcelState 21 = .ok (.getfield 50, 3) := by decide +kernel
theorem dX9_parcelState_24 : decode cX9_parcelState 24 = .ok (.iload_n 1, 1) := by decide +kernel
theorem dX9_parcelState_25 : decode cX9_parcelState 25 = .ok (.baload, 1) := by decide +kernel
theorem dX9_parcelState_26 : decode cX9_parcelState 26 = .ok (.ifCond .eq 8, 3) := by decide +kernel
theorem dX9_parcelState_29 : decode cX9_parcelState 29 = .ok (.bipush 100, 2) := by decide +kernel
theorem dX9_parcelState_31 : decode cX9_parcelState 31 = .ok (.goto 5, 3) := by decide +kernel
theorem dX9_parcelState_34 : decode cX9_parcelState 34 = .ok (.bipush 119, 2) := by decide +kernel
theorem dX9_parcelState_36 : decode cX9_parcelState 36 = .ok (.ireturn, 1) := by decide +kernel
theorem dX9_isHeavy_0 : decode cX9_isHeavy 0 = .ok (.aload_n 0, 1) := by decide +kernel
theorem dX9_isHeavy_1 : decode cX9_isHeavy 1 = .ok (.iconst 0, 1) := by decide +kernel
theorem dX9_isHeavy_2 : decode cX9_isHeavy 2 = .ok (.putfield 81, 3) := by decide +kernel
theorem dX9_isHeavy_5 : decode cX9_isHeavy 5 = .ok (.aload_n 0, 1) := by decide +kernel
theorem dX9_isHeavy_6 : decode cX9_isHeavy 6 = .ok (.iload_n 1, 1) := by decide +kernel
theorem dX9_isHeavy_7 : decode cX9_isHeavy 7 = .ok (.invokevirtual 224, 3) := by decide +kernel
theorem dX9_isHeavy_10 : decode cX9_isHeavy 10 = .ok (.ifCond .eq 24, 3) := by decide +kernel
theorem dX9_isHeavy_13 : decode cX9_isHeavy 13 = .ok (.aload_n 0, 1) := by decide +kernel
theorem dX9_isHeavy_14 : decode cX9_isHeavy 14 = .ok (.getfield 40, 3) := by decide +kernel
theorem dX9_isHeavy_17 : decode cX9_isHeavy 17 = .ok (.iload_n 1, 1) := by decide +kernel
theorem dX9_isHeavy_18 : decode cX9_isHeavy 18 = .ok (.iaload, 1) := by decide +kernel
theorem dX9_isHeavy_19 : decode cX9_isHeavy 19 = .ok (.aload_n 0, 1) := by decide +kernel
theorem dX9_isHeavy_20 : decode cX9_isHeavy 20 = .ok (.getfield 57, 3) := by decide +kernel
theorem dX9_isHeavy_23 : decode cX9_isHeavy 23 = .ok (.if_icmp .le 7, 3) := by decide +kernel
theorem dX9_isHeavy_26 : decode cX9_isHeavy 26 = .ok (.iconst 1, 1) := by decide +kernel
theorem dX9_isHeavy_27 : decode cX9_isHeavy 27 = .ok (.goto 20, 3) := by decide +kernel
theorem dX9_isHeavy_30 : decode cX9_isHeavy 30 = .ok (.iconst 0, 1) := by decide +kernel
theorem dX9_isHeavy_31 : decode cX9_isHeavy 31 = .ok (.goto 16, 3) := by decide +kernel
theorem dX9_isHeavy_34 : decode cX9_isHeavy 34 = .ok (.aload_n 0, 1) := by decide +kernel
theorem dX9_isHeavy_35 : decode cX9_isHeavy 35 = .ok (.iconst 1, 1) := by decide +kernel
theorem dX9_isHeavy_36 : decode cX9_isHeavy 36 = .ok (.invokevirtual 100, 3) := by decide +kernel
theorem dX9_isHeavy_39 : decode cX9_isHeavy 39 = .ok (.ifCond .le 7, 3) := by decide +kernel
theorem dX9_isHeavy_42 : decode cX9_isHeavy 42 = .ok (.iconst 1, 1) := by decide +kernel
theorem dX9_isHeavy_43 : decode cX9_isHeavy 43 = .ok (.goto 4, 3) := by decide +kernel
theorem dX9_isHeavy_46 : decode cX9_isHeavy 46 = .ok (.iconst 0, 1) := by decide +kernel
theorem dX9_isHeavy_47 : decode cX9_isHeavy 47 = .ok (.ireturn, 1) := by decide +kernel
theorem dX9_farTo_0 : decode cX9_farTo 0 = .ok (.aload_n 0, 1) := by decide +kernel
theorem dX9_farTo_1 : decode cX9_farTo 1 = .ok (.getfield 60, 3) := by decide +kernel
theorem dX9_farTo_4 : decode cX9_farTo 4 = .ok (.aload_n 0, 1) := by decide +kernel
theorem dX9_farTo_5 : decode cX9_farTo 5 = .ok (.getfield 9, 3) := by decide +kernel
theorem dX9_farTo_8 : decode cX9_farTo 8 = .ok (.aload_n 0, 1) := by decide +kernel
theorem dX9_farTo_9 : decode cX9_farTo 9 = .ok (.getfield 22, 3) := by decide +kernel
theorem dX9_farTo_12 : decode cX9_farTo 12 = .ok (.aload_n 0, 1) := by decide +kernel
theorem dX9_farTo_13 : decode cX9_farTo 13 = .ok (.getfield 37, 3) := by decide +kernel
theorem dX9_farTo_16 : decode cX9_farTo 16 = .ok (.iload_n 1, 1) := by decide +kernel
theorem dX9_farTo_17 : decode cX9_farTo 17 = .ok (.iaload, 1) := by decide +kernel
theorem dX9_farTo_18 : decode cX9_farTo 18 = .ok (.iaload, 1) := by decide +kernel
theorem dX9_farTo_19 : decode cX9_farTo 19 = .ok (.iaload, 1) := by decide +kernel
theorem dX9_farTo_20 : decode cX9_farTo 20 = .ok (.iaload, 1) := by decide +kernel
theorem dX9_farTo_21 : decode cX9_farTo 21 = .ok (.ireturn, 1) := by decide +kernel
theorem dX9_goesFirst_0 : decode cX9_goesFirst 0 = .ok (.aload_n 0, 1) := by decide +kernel
theorem dX9_goesFirst_1 : decode cX9_goesFirst 1 = .ok (.getfield 43, 3) := by decide +kernel
theorem dX9_goesFirst_4 : decode cX9_goesFirst 4 = .ok (.iload_n 1, 1) := by decide +kernel
theorem dX9_goesFirst_5 : decode cX9_goesFirst 5 = .ok (.iaload, 1) := by decide +kernel
theorem dX9_goesFirst_6 : decode cX9_goesFirst 6 = .ok (.aload_n 0, 1) := by decide +kernel
theorem dX9_goesFirst_7 : decode cX9_goesFirst 7 = .ok (.getfield 43, 3) := by decide +kernel
theorem dX9_goesFirst_10 : decode cX9_goesFirst 10 = .ok (.iload_n 2, 1) := by decide +kernel
theorem dX9_goesFirst_11 : decode cX9_goesFirst 11 = .ok (.iaload, 1) := by decide +kernel
theorem dX9_goesFirst_12 : decode cX9_goesFirst 12 = .ok (.if_icmp .eq 24, 3) := by decide +kernel
theorem dX9_goesFirst_15 : decode cX9_goesFirst 15 = .ok (.aload_n 0, 1) := by decide +kernel
theorem dX9_goesFirst_16 : decode cX9_goesFirst 16 = .ok (.getfield 43, 3) := by decide +kernel
theorem dX9_goesFirst_19 : decode cX9_goesFirst 19 = .ok (.iload_n 1, 1) := by decide +kernel
theorem dX9_goesFirst_20 : decode cX9_goesFirst 20 = .ok (.iaload, 1) := by decide +kernel
theorem dX9_goesFirst_21 : decode cX9_goesFirst 21 = .ok (.aload_n 0, 1) := by decide +kernel
theorem dX9_goesFirst_22 : decode cX9_goesFirst 22 = .ok (.getfield 43, 3) := by decide +kernel
theorem dX9_goesFirst_25 : decode cX9_goesFirst 25 = .ok (.iload_n 2, 1) := by decide +kernel
theorem dX9_goesFirst_26 : decode cX9_goesFirst 26 = .ok (.iaload, 1) := by decide +kernel
theorem dX9_goesFirst_27 : decode cX9_goesFirst 27 = .ok (.if_icmp .ge 7, 3) := by decide +kernel
theorem dX9_goesFirst_30 : decode cX9_goesFirst 30 = .ok (.iconst 1, 1) := by decide +kernel
theorem dX9_goesFirst_31 : decode cX9_goesFirst 31 = .ok (.goto 4, 3) := by decide +kernel
theorem dX9_goesFirst_34 : decode cX9_goesFirst 34 = .ok (.iconst 0, 1) := by decide +kernel
theorem dX9_goesFirst_35 : decode cX9_goesFirst 35 = .ok (.ireturn, 1) := by decide +kernel
theorem dX9_goesFirst_36 : decode cX9_goesFirst 36 = .ok (.aload_n 0, 1) := by decide +kernel
theorem dX9_goesFirst_37 : decode cX9_goesFirst 37 = .ok (.iload_n 1, 1) := by decide +kernel
theorem dX9_goesFirst_38 : decode cX9_goesFirst 38 = .ok (.invokevirtual 227, 3) := by decide +kernel
theorem dX9_goesFirst_41 : decode cX9_goesFirst 41 = .ok (.aload_n 0, 1) := by decide +kernel
theorem dX9_goesFirst_42 : decode cX9_goesFirst 42 = .ok (.iload_n 2, 1) := by decide +kernel
theorem dX9_goesFirst_43 : decode cX9_goesFirst 43 = .ok (.invokevirtual 227, 3) := by decide +kernel
theorem dX9_goesFirst_46 : decode cX9_goesFirst 46 = .ok (.if_icmp .eq 24, 3) := by decide +kernel
theorem dX9_goesFirst_49 : decode cX9_goesFirst 49 = .ok (.aload_n 0, 1) := by decide +kernel
theorem dX9_goesFirst_50 : decode cX9_goesFirst 50 = .ok (.iload_n 1, 1) := by decide +kernel
theorem dX9_goesFirst_51 : decode cX9_goesFirst 51 = .ok (.invokevirtual 227, 3) := by decide +kernel
theorem dX9_goesFirst_54 : decode cX9_goesFirst 54 = .ok (.aload_n 0, 1) := by decide +kernel
theorem dX9_goesFirst_55 : decode cX9_goesFirst 55 = .ok (.iload_n 2, 1) := by decide +kernel
theorem dX9_goesFirst_56 : decode cX9_goesFirst 56 = .ok (.invokevirtual 227, 3) := by decide +kernel
theorem dX9_goesFirst_59 : decode cX9_goesFirst 59 = .ok (.if_icmp .ge 7, 3) := by decide +kernel
theorem dX9_goesFirst_62 : decode cX9_goesFirst 62 = .ok (.iconst 1, 1) := by decide +kernel
theorem dX9_goesFirst_63 : decode cX9_goesFirst 63 = .ok (.goto 17, 3) := by decide +kernel
theorem dX9_goesFirst_66 : decode cX9_goesFirst 66 = .ok (.iconst 0, 1) := by decide +kernel
theorem dX9_goesFirst_67 : decode cX9_goesFirst 67 = .ok (.goto 13, 3) := by decide +kernel
theorem dX9_goesFirst_70 : decode cX9_goesFirst 70 = .ok (.iload_n 1, 1) := by decide +kernel
theorem dX9_goesFirst_71 : decode cX9_goesFirst 71 = .ok (.iload_n 2, 1) := by decide +kernel
theorem dX9_goesFirst_72 : decode cX9_goesFirst 72 = .ok (.if_icmp .ge 7, 3) := by decide +kernel
theorem dX9_goesFirst_75 : decode cX9_goesFirst 75 = .ok (.iconst 1, 1) := by decide +kernel
theorem dX9_goesFirst_76 : decode cX9_goesFirst 76 = .ok (.goto 4, 3) := by decide +kernel
theorem dX9_goesFirst_79 : decode cX9_goesFirst 79 = .ok (.iconst 0, 1) := by decide +kernel
theorem dX9_goesFirst_80 : decode cX9_goesFirst 80 = .ok (.ireturn, 1) := by decide +kernel
theorem dX9_nextHeavy_0 : decode cX9_nextHeavy 0 = .ok (.aload_n 0, 1) := by decide +kernel
theorem dX9_nextHeavy_1 : decode cX9_nextHeavy 1 = .ok (.invokevirtual 143, 3) := by decide +kernel
theorem dX9_nextHeavy_4 : decode cX9_nextHeavy 4 = .ok (.iconst (-1), 1) := by decide +kernel
theorem dX9_nextHeavy_5 : decode cX9_nextHeavy 5 = .ok (.istore_n 1, 1) := by decide +kernel
theorem dX9_nextHeavy_6 : decode cX9_nextHeavy 6 = .ok (.iconst 0, 1) := by decide +kernel
theorem dX9_nextHeavy_7 : decode cX9_nextHeavy 7 = .ok (.istore_n 2, 1) := by decide +kernel
theorem dX9_nextHeavy_8 : decode cX9_nextHeavy 8 = .ok (.iload_n 2, 1) := by decide +kernel
theorem dX9_nextHeavy_9 : decode cX9_nextHeavy 9 = .ok (.aload_n 0, 1) := by decide +kernel
theorem dX9_nextHeavy_10 : decode cX9_nextHeavy 10 = .ok (.getfield 97, 3) := by decide +kernel
theorem dX9_nextHeavy_13 : decode cX9_nextHeavy 13 = .ok (.if_icmp .ge 46, 3) := by decide +kernel
theorem dX9_nextHeavy_16 : decode cX9_nextHeavy 16 = .ok (.aload_n 0, 1) := by decide +kernel
theorem dX9_nextHeavy_17 : decode cX9_nextHeavy 17 = .ok (.getfield 40, 3) := by decide +kernel
theorem dX9_nextHeavy_20 : decode cX9_nextHeavy 20 = .ok (.iload_n 2, 1) := by decide +kernel
theorem dX9_nextHeavy_21 : decode cX9_nextHeavy 21 = .ok (.iaload, 1) := by decide +kernel
theorem dX9_nextHeavy_22 : decode cX9_nextHeavy 22 = .ok (.aload_n 0, 1) := by decide +kernel
theorem dX9_nextHeavy_23 : decode cX9_nextHeavy 23 = .ok (.getfield 57, 3) := by decide +kernel
theorem dX9_nextHeavy_26 : decode cX9_nextHeavy 26 = .ok (.if_icmp .le 27, 3) := by decide +kernel
theorem dX9_nextHeavy_29 : decode cX9_nextHeavy 29 = .ok (.aload_n 0, 1) := by decide +kernel
theorem dX9_nextHeavy_30 : decode cX9_nextHeavy 30 = .ok (.getfield 50, 3) := by decide +kernel
theorem dX9_nextHeavy_33 : decode cX9_nextHeavy 33 = .ok (.iload_n 2, 1) := by decide +kernel
theorem dX9_nextHeavy_34 : decode cX9_nextHeavy 34 = .ok (.baload, 1) := by decide +kernel
theorem dX9_nextHeavy_35 : decode cX9_nextHeavy 35 = .ok (.ifCond .ne 18, 3) := by decide +kernel
theorem dX9_nextHeavy_38 : decode cX9_nextHeavy 38 = .ok (.iload_n 1, 1) := by decide +kernel
theorem dX9_nextHeavy_39 : decode cX9_nextHeavy 39 = .ok (.ifCond .lt 12, 3) := by decide +kernel
theorem dX9_nextHeavy_42 : decode cX9_nextHeavy 42 = .ok (.aload_n 0, 1) := by decide +kernel
theorem dX9_nextHeavy_43 : decode cX9_nextHeavy 43 = .ok (.iload_n 2, 1) := by decide +kernel
theorem dX9_nextHeavy_44 : decode cX9_nextHeavy 44 = .ok (.iload_n 1, 1) := by decide +kernel
theorem dX9_nextHeavy_45 : decode cX9_nextHeavy 45 = .ok (.invokevirtual 230, 3) := by decide +kernel
theorem dX9_nextHeavy_48 : decode cX9_nextHeavy 48 = .ok (.ifCond .eq 5, 3) := by decide +kernel
theorem dX9_nextHeavy_51 : decode cX9_nextHeavy 51 = .ok (.iload_n 2, 1) := by decide +kernel
theorem dX9_nextHeavy_52 : decode cX9_nextHeavy 52 = .ok (.istore_n 1, 1) := by decide +kernel
theorem dX9_nextHeavy_53 : decode cX9_nextHeavy 53 = .ok (.iinc 2 1, 3) := by decide +kernel
theorem dX9_nextHeavy_56 : decode cX9_nextHeavy 56 = .ok (.goto (-48), 3) := by decide +kernel
theorem dX9_nextHeavy_59 : decode cX9_nextHeavy 59 = .ok (.iload_n 1, 1) := by decide +kernel
theorem dX9_nextHeavy_60 : decode cX9_nextHeavy 60 = .ok (.ireturn, 1) := by decide +kernel
theorem dX9_nextParcel_0 : decode cX9_nextParcel 0 = .ok (.aload_n 0, 1) := by decide +kernel
theorem dX9_nextParcel_1 : decode cX9_nextParcel 1 = .ok (.iconst 0, 1) := by decide +kernel
theorem dX9_nextParcel_2 : decode cX9_nextParcel 2 = .ok (.putfield 81, 3) := by decide +kernel
theorem dX9_nextParcel_5 : decode cX9_nextParcel 5 = .ok (.aload_n 0, 1) := by decide +kernel
theorem dX9_nextParcel_6 : decode cX9_nextParcel 6 = .ok (.invokevirtual 233, 3) := by decide +kernel
theorem dX9_nextParcel_9 : decode cX9_nextParcel 9 = .ok (.istore_n 1, 1) := by decide +kernel
theorem dX9_nextParcel_10 : decode cX9_nextParcel 10 = .ok (.iload_n 1, 1) := by decide +kernel
theorem dX9_nextParcel_11 : decode cX9_nextParcel 11 = .ok (.ifCond .ge 11, 3) := by decide +kernel
theorem dX9_nextParcel_14 : decode cX9_nextParcel 14 = .ok (.aload_n 0, 1) := by decide +kernel
theorem dX9_nextParcel_15 : decode cX9_nextParcel 15 = .ok (.iconst 1, 1) := by decide +kernel
theorem dX9_nextParcel_16 : decode cX9_nextParcel 16 = .ok (.invokevirtual 100, 3) := by decide +kernel
theorem dX9_nextParcel_19 : decode cX9_nextParcel 19 = .ok (.goto 4, 3) := by decide +kernel
theorem dX9_nextParcel_22 : decode cX9_nextParcel 22 = .ok (.iload_n 1, 1) := by decide +kernel
theorem dX9_nextParcel_23 : decode cX9_nextParcel 23 = .ok (.ireturn, 1) := by decide +kernel
theorem dX9_trip_0 : decode cX9_trip 0 = .ok (.iconst 2, 1) := by decide +kernel
theorem dX9_trip_1 : decode cX9_trip 1 = .ok (.aload_n 0, 1) := by decide +kernel
theorem dX9_trip_2 : decode cX9_trip 2 = .ok (.iload_n 1, 1) := by decide +kernel
theorem dX9_trip_3 : decode cX9_trip 3 = .ok (.invokevirtual 227, 3) := by decide +kernel
theorem dX9_trip_6 : decode cX9_trip 6 = .ok (.imul, 1) := by decide +kernel
theorem dX9_trip_7 : decode cX9_trip 7 = .ok (.iconst 2, 1) := by decide +kernel
theorem dX9_trip_8 : decode cX9_trip 8 = .ok (.aload_n 0, 1) := by decide +kernel
theorem dX9_trip_9 : decode cX9_trip 9 = .ok (.getfield 28, 3) := by decide +kernel
theorem dX9_trip_12 : decode cX9_trip 12 = .ok (.aload_n 0, 1) := by decide +kernel
theorem dX9_trip_13 : decode cX9_trip 13 = .ok (.getfield 37, 3) := by decide +kernel
theorem dX9_trip_16 : decode cX9_trip 16 = .ok (.iload_n 1, 1) := by decide +kernel
theorem dX9_trip_17 : decode cX9_trip 17 = .ok (.iaload, 1) := by decide +kernel
theorem dX9_trip_18 : decode cX9_trip 18 = .ok (.iaload, 1) := by decide +kernel
theorem dX9_trip_19 : decode cX9_trip 19 = .ok (.imul, 1) := by decide +kernel
theorem dX9_trip_20 : decode cX9_trip 20 = .ok (.iadd, 1) := by decide +kernel
theorem dX9_trip_21 : decode cX9_trip 21 = .ok (.iconst 2, 1) := by decide +kernel
theorem dX9_trip_22 : decode cX9_trip 22 = .ok (.iadd, 1) := by decide +kernel
theorem dX9_trip_23 : decode cX9_trip 23 = .ok (.iconst 3, 1) := by decide +kernel
theorem dX9_trip_24 : decode cX9_trip 24 = .ok (.idiv, 1) := by decide +kernel
theorem dX9_trip_25 : decode cX9_trip 25 = .ok (.ireturn, 1) := by decide +kernel
theorem dX9_tripOf_0 : decode cX9_tripOf 0 = .ok (.aload_n 0, 1) := by decide +kernel
theorem dX9_tripOf_1 : decode cX9_tripOf 1 = .ok (.iconst 0, 1) := by decide +kernel
theorem dX9_tripOf_2 : decode cX9_tripOf 2 = .ok (.putfield 81, 3) := by decide +kernel
theorem dX9_tripOf_5 : decode cX9_tripOf 5 = .ok (.aload_n 0, 1) := by decide +kernel
theorem dX9_tripOf_6 : decode cX9_tripOf 6 = .ok (.iload_n 1, 1) := by decide +kernel
theorem dX9_tripOf_7 : decode cX9_tripOf 7 = .ok (.invokevirtual 224, 3) := by decide +kernel
theorem dX9_tripOf_10 : decode cX9_tripOf 10 = .ok (.ifCond .ne 9, 3) := by decide +kernel
theorem dX9_tripOf_13 : decode cX9_tripOf 13 = .ok (.aload_n 0, 1) := by decide +kernel
theorem dX9_tripOf_14 : decode cX9_tripOf 14 = .ok (.iconst 1, 1) := by decide +kernel
theorem dX9_tripOf_15 : decode cX9_tripOf 15 = .ok (.invokevirtual 100, 3) := by decide +kernel
theorem dX9_tripOf_18 : decode cX9_tripOf 18 = .ok (.ireturn, 1) := by decide +kernel
theorem dX9_tripOf_19 : decode cX9_tripOf 19 = .ok (.aload_n 0, 1) := by decide +kernel
theorem dX9_tripOf_20 : decode cX9_tripOf 20 = .ok (.invokevirtual 143, 3) := by decide +kernel
theorem dX9_tripOf_23 : decode cX9_tripOf 23 = .ok (.aload_n 0, 1) := by decide +kernel
theorem dX9_tripOf_24 : decode cX9_tripOf 24 = .ok (.iload_n 1, 1) := by decide +kernel
theorem dX9_tripOf_25 : decode cX9_tripOf 25 = .ok (.invokevirtual 227, 3) := by decide +kernel
theorem dX9_tripOf_28 : decode cX9_tripOf 28 = .ok (.ldc 136, 2) := by decide +kernel
theorem dX9_tripOf_30 : decode cX9_tripOf 30 = .ok (.if_icmp .lt 11, 3) := by decide +kernel
theorem dX9_tripOf_33 : decode cX9_tripOf 33 = .ok (.aload_n 0, 1) := by decide +kernel
theorem dX9_tripOf_34 : decode cX9_tripOf 34 = .ok (.iconst 2, 1) := by decide +kernel
theorem dX9_tripOf_35 : decode cX9_tripOf 35 = .ok (.invokevirtual 100, 3) := by decide +kernel
theorem dX9_tripOf_38 : decode cX9_tripOf 38 = .ok (.goto 8, 3) := by decide +kernel
theorem dX9_tripOf_41 : decode cX9_tripOf 41 = .ok (.aload_n 0, 1) := by decide +kernel
theorem dX9_tripOf_42 : decode cX9_tripOf 42 = .ok (.iload_n 1, 1) := by decide +kernel
theorem dX9_tripOf_43 : decode cX9_tripOf 43 = .ok (.invokevirtual 237, 3) := by decide +kernel
theorem dX9_tripOf_46 : decode cX9_tripOf 46 = .ok (.ireturn, 1) := by decide +kernel
theorem dX9_dispatch_0 : decode cX9_dispatch 0 = .ok (.aload_n 0, 1) := by decide +kernel
theorem dX9_dispatch_1 : decode cX9_dispatch 1 = .ok (.iconst 0, 1) := by decide +kernel
theorem dX9_dispatch_2 : decode cX9_dispatch 2 = .ok (.putfield 81, 3) := by decide +kernel
theorem dX9_dispatch_5 : decode cX9_dispatch 5 = .ok (.aload_n 0, 1) := by decide +kernel
theorem dX9_dispatch_6 : decode cX9_dispatch 6 = .ok (.invokevirtual 233, 3) := by decide +kernel
theorem dX9_dispatch_9 : decode cX9_dispatch 9 = .ok (.istore_n 1, 1) := by decide +kernel
theorem dX9_dispatch_10 : decode cX9_dispatch 10 = .ok (.iload_n 1, 1) := by decide +kernel
theorem dX9_dispatch_11 : decode cX9_dispatch 11 = .ok (.ifCond .ge 17, 3) := by decide +kernel
theorem dX9_dispatch_14 : decode cX9_dispatch 14 = .ok (.aload_n 0, 1) := by decide +kernel
theorem dX9_dispatch_15 : decode cX9_dispatch 15 = .ok (.iconst 1, 1) := by decide +kernel
theorem dX9_dispatch_16 : decode cX9_dispatch 16 = .ok (.invokevirtual 100, 3) := by decide +kernel
theorem dX9_dispatch_19 : decode cX9_dispatch 19 = .ok (.ifCond .le 7, 3) := by decide +kernel
theorem dX9_dispatch_22 : decode cX9_dispatch 22 = .ok (.iconst 1, 1) := by decide +kernel
theorem dX9_dispatch_23 : decode cX9_dispatch 23 = .ok (.goto 4, 3) := by decide +kernel
theorem dX9_dispatch_26 : decode cX9_dispatch 26 = .ok (.iconst 0, 1) := by decide +kernel
theorem dX9_dispatch_27 : decode cX9_dispatch 27 = .ok (.ireturn, 1) := by decide +kernel
theorem dX9_dispatch_28 : decode cX9_dispatch 28 = .ok (.aload_n 0, 1) := by decide +kernel
theorem dX9_dispatch_29 : decode cX9_dispatch 29 = .ok (.iload_n 1, 1) := by decide +kernel
theorem dX9_dispatch_30 : decode cX9_dispatch 30 = .ok (.invokevirtual 227, 3) := by decide +kernel
theorem dX9_dispatch_33 : decode cX9_dispatch 33 = .ok (.ldc 136, 2) := by decide +kernel
theorem dX9_dispatch_35 : decode cX9_dispatch 35 = .ok (.if_icmp .lt 17, 3) := by decide +kernel
theorem dX9_dispatch_38 : decode cX9_dispatch 38 = .ok (.aload_n 0, 1) := by decide +kernel
theorem dX9_dispatch_39 : decode cX9_dispatch 39 = .ok (.iconst 2, 1) := by decide +kernel
theorem dX9_dispatch_40 : decode cX9_dispatch 40 = .ok (.invokevirtual 100, 3) := by decide +kernel
theorem dX9_dispatch_43 : decode cX9_dispatch 43 = .ok (.ifCond .le 7, 3) := by decide +kernel
theorem dX9_dispatch_46 : decode cX9_dispatch 46 = .ok (.iconst 1, 1) := by decide +kernel
theorem dX9_dispatch_47 : decode cX9_dispatch 47 = .ok (.goto 4, 3) := by decide +kernel
theorem dX9_dispatch_50 : decode cX9_dispatch 50 = .ok (.iconst 0, 1) := by decide +kernel
theorem dX9_dispatch_51 : decode cX9_dispatch 51 = .ok (.ireturn, 1) := by decide +kernel
theorem dX9_dispatch_52 : decode cX9_dispatch 52 = .ok (.aload_n 0, 1) := by decide +kernel
theorem dX9_dispatch_53 : decode cX9_dispatch 53 = .ok (.dup, 1) := by decide +kernel
theorem dX9_dispatch_54 : decode cX9_dispatch 54 = .ok (.getfield 126, 3) := by decide +kernel
theorem dX9_dispatch_57 : decode cX9_dispatch 57 = .ok (.aload_n 0, 1) := by decide +kernel
theorem dX9_dispatch_58 : decode cX9_dispatch 58 = .ok (.iload_n 1, 1) := by decide +kernel
theorem dX9_dispatch_59 : decode cX9_dispatch 59 = .ok (.invokevirtual 237, 3) := by decide +kernel
theorem dX9_dispatch_62 : decode cX9_dispatch 62 = .ok (.iadd, 1) := by decide +kernel
theorem dX9_dispatch_63 : decode cX9_dispatch 63 = .ok (.putfield 126, 3) := by decide +kernel
theorem dX9_dispatch_66 : decode cX9_dispatch 66 = .ok (.aload_n 0, 1) := by decide +kernel
theorem dX9_dispatch_67 : decode cX9_dispatch 67 = .ok (.getfield 50, 3) := by decide +kernel
theorem dX9_dispatch_70 : decode cX9_dispatch 70 = .ok (.iload_n 1, 1) := by decide +kernel
theorem dX9_dispatch_71 : decode cX9_dispatch 71 = .ok (.iconst 1, 1) := by decide +kernel
theorem dX9_dispatch_72 : decode cX9_dispatch 72 = .ok (.bastore, 1) := by decide +kernel
theorem dX9_dispatch_73 : decode cX9_dispatch 73 = .ok (.aload_n 0, 1) := by decide +kernel
theorem dX9_dispatch_74 : decode cX9_dispatch 74 = .ok (.dup, 1) := by decide +kernel
theorem dX9_dispatch_75 : decode cX9_dispatch 75 = .ok (.getfield 240, 3) := by decide +kernel
theorem dX9_dispatch_78 : decode cX9_dispatch 78 = .ok (.iconst 1, 1) := by decide +kernel
theorem dX9_dispatch_79 : decode cX9_dispatch 79 = .ok (.iadd, 1) := by decide +kernel
theorem dX9_dispatch_80 : decode cX9_dispatch 80 = .ok (.putfield 240, 3) := by decide +kernel
theorem dX9_dispatch_83 : decode cX9_dispatch 83 = .ok (.aload_n 0, 1) := by decide +kernel
theorem dX9_dispatch_84 : decode cX9_dispatch 84 = .ok (.getfield 126, 3) := by decide +kernel
theorem dX9_dispatch_87 : decode cX9_dispatch 87 = .ok (.aload_n 0, 1) := by decide +kernel
theorem dX9_dispatch_88 : decode cX9_dispatch 88 = .ok (.iload_n 1, 1) := by decide +kernel
theorem dX9_dispatch_89 : decode cX9_dispatch 89 = .ok (.invokevirtual 237, 3) := by decide +kernel
theorem dX9_dispatch_92 : decode cX9_dispatch 92 = .ok (.iconst 2, 1) := by decide +kernel
theorem dX9_dispatch_93 : decode cX9_dispatch 93 = .ok (.idiv, 1) := by decide +kernel
theorem dX9_dispatch_94 : decode cX9_dispatch 94 = .ok (.isub, 1) := by decide +kernel
theorem dX9_dispatch_95 : decode cX9_dispatch 95 = .ok (.aload_n 0, 1) := by decide +kernel
theorem dX9_dispatch_96 : decode cX9_dispatch 96 = .ok (.getfield 43, 3) := by decide +kernel
theorem dX9_dispatch_99 : decode cX9_dispatch 99 = .ok (.iload_n 1, 1) := by decide +kernel
theorem dX9_dispatch_100 : decode cX9_dispatch 100 = .ok (.iaload, 1) := by decide +kernel
theorem dX9_dispatch_101 : decode cX9_dispatch 101 = .ok (.if_icmp .le 7, 3) := by decide +kernel
theorem dX9_dispatch_104 : decode cX9_dispatch 104 = .ok (.iconst 1, 1) := by decide +kernel
theorem dX9_dispatch_105 : decode cX9_dispatch 105 = .ok (.goto 4, 3) := by decide +kernel
theorem dX9_dispatch_108 : decode cX9_dispatch 108 = .ok (.iconst 0, 1) := by decide +kernel
theorem dX9_dispatch_109 : decode cX9_dispatch 109 = .ok (.istore_n 2, 1) := by decide +kernel
theorem dX9_dispatch_110 : decode cX9_dispatch 110 = .ok (.aload_n 0, 1) := by decide +kernel
theorem dX9_dispatch_111 : decode cX9_dispatch 111 = .ok (.dup, 1) := by decide +kernel
theorem dX9_dispatch_112 : decode cX9_dispatch 112 = .ok (.getfield 243, 3) := by decide +kernel
theorem dX9_dispatch_115 : decode cX9_dispatch 115 = .ok (.iload_n 2, 1) := by decide +kernel
theorem dX9_dispatch_116 : decode cX9_dispatch 116 = .ok (.ifCond .eq 7, 3) := by decide +kernel
theorem dX9_dispatch_119 : decode cX9_dispatch 119 = .ok (.iconst 1, 1) := by decide +kernel
theorem dX9_dispatch_120 : decode cX9_dispatch 120 = .ok (.goto 4, 3) := by decide +kernel
theorem dX9_dispatch_123 : decode cX9_dispatch 123 = .ok (.iconst 0, 1) := by decide +kernel
theorem dX9_dispatch_124 : decode cX9_dispatch 124 = .ok (.iadd, 1) := by decide +kernel
theorem dX9_dispatch_125 : decode cX9_dispatch 125 = .ok (.putfield 243, 3) := by decide +kernel
theorem dX9_dispatch_128 : decode cX9_dispatch 128 = .ok (.iload_n 2, 1) := by decide +kernel
theorem dX9_dispatch_129 : decode cX9_dispatch 129 = .ok (.ireturn, 1) := by decide +kernel
theorem dX9_vanClock_0 : decode cX9_vanClock 0 = .ok (.aload_n 0, 1) := by decide +kernel
theorem dX9_vanClock_1 : decode cX9_vanClock 1 = .ok (.iconst 0, 1) := by decide +kernel
theorem dX9_vanClock_2 : decode cX9_vanClock 2 = .ok (.putfield 81, 3) := by decide +kernel
theorem dX9_vanClock_5 : decode cX9_vanClock 5 = .ok (.aload_n 0, 1) := by decide +kernel
theorem dX9_vanClock_6 : decode cX9_vanClock 6 = .ok (.getfield 126, 3) := by decide +kernel
theorem dX9_vanClock_9 : decode cX9_vanClock 9 = .ok (.ireturn, 1) := by decide +kernel
theorem dX9_late_0 : decode cX9_late 0 = .ok (.aload_n 0, 1) := by decide +kernel
theorem dX9_late_1 : decode cX9_late 1 = .ok (.iconst 0, 1) := by decide +kernel
theorem dX9_late_2 : decode cX9_late 2 = .ok (.putfield 81, 3) := by decide +kernel
theorem dX9_late_5 : decode cX9_late 5 = .ok (.aload_n 0, 1) := by decide +kernel
theorem dX9_late_6 : decode cX9_late 6 = .ok (.getfield 243, 3) := by decide +kernel
theorem dX9_late_9 : decode cX9_late 9 = .ok (.ireturn, 1) := by decide +kernel
theorem dX9_walked_0 : decode cX9_walked 0 = .ok (.aload_n 0, 1) := by decide +kernel
theorem dX9_walked_1 : decode cX9_walked 1 = .ok (.iconst 0, 1) := by decide +kernel
theorem dX9_walked_2 : decode cX9_walked 2 = .ok (.putfield 81, 3) := by decide +kernel
theorem dX9_walked_5 : decode cX9_walked 5 = .ok (.aload_n 0, 1) := by decide +kernel
theorem dX9_walked_6 : decode cX9_walked 6 = .ok (.getfield 214, 3) := by decide +kernel
theorem dX9_walked_9 : decode cX9_walked 9 = .ok (.lreturn, 1) := by decide +kernel
theorem dX9_lateShare_0 : decode cX9_lateShare 0 = .ok (.aload_n 0, 1) := by decide +kernel
theorem dX9_lateShare_1 : decode cX9_lateShare 1 = .ok (.iconst 0, 1) := by decide +kernel
theorem dX9_lateShare_2 : decode cX9_lateShare 2 = .ok (.putfield 81, 3) := by decide +kernel
theorem dX9_lateShare_5 : decode cX9_lateShare 5 = .ok (.aload_n 0, 1) := by decide +kernel
theorem dX9_lateShare_6 : decode cX9_lateShare 6 = .ok (.getfield 240, 3) := by decide +kernel
theorem dX9_lateShare_9 : decode cX9_lateShare 9 = .ok (.ifCond .ne 10, 3) := by decide +kernel
theorem dX9_lateShare_12 : decode cX9_lateShare 12 = .ok (.aload_n 0, 1) := by decide +kernel
theorem dX9_lateShare_13 : decode cX9_lateShare 13 = .ok (.iconst 1, 1) := by decide +kernel
theorem dX9_lateShare_14 : decode cX9_lateShare 14 = .ok (.invokevirtual 100, 3) := by decide +kernel
theorem dX9_lateShare_17 : decode cX9_lateShare 17 = .ok (.i2f, 1) := by decide +kernel
theorem dX9_lateShare_18 : decode cX9_lateShare 18 = .ok (.freturn, 1) := by decide +kernel
theorem dX9_lateShare_19 : decode cX9_lateShare 19 = .ok (.aload_n 0, 1) := by decide +kernel
theorem dX9_lateShare_20 : decode cX9_lateShare 20 = .ok (.getfield 243, 3) := by decide +kernel
theorem dX9_lateShare_23 : decode cX9_lateShare 23 = .ok (.i2f, 1) := by decide +kernel
theorem dX9_lateShare_24 : decode cX9_lateShare 24 = .ok (.aload_n 0, 1) := by decide +kernel
theorem dX9_lateShare_25 : decode cX9_lateShare 25 = .ok (.getfield 240, 3) := by decide +kernel
theorem dX9_lateShare_28 : decode cX9_lateShare 28 = .ok (.i2f, 1) := by decide +kernel
theorem dX9_lateShare_29 : decode cX9_lateShare 29 = .ok (.fdiv, 1) := by decide +kernel
theorem dX9_lateShare_30 : decode cX9_lateShare 30 = .ok (.freturn, 1) := by decide +kernel
theorem dX9_meanLetters_0 : decode cX9_meanLetters 0 = .ok (.aload_n 0, 1) := by decide +kernel
theorem dX9_meanLetters_1 : decode cX9_meanLetters 1 = .ok (.iconst 0, 1) := by decide +kernel
theorem dX9_meanLetters_2 : decode cX9_meanLetters 2 = .ok (.putfield 81, 3) := by decide +kernel
theorem dX9_meanLetters_5 : decode cX9_meanLetters 5 = .ok (.iconst 0, 1) := by decide +kernel
theorem dX9_meanLetters_6 : decode cX9_meanLetters 6 = .ok (.istore_n 1, 1) := by decide +kernel
theorem dX9_meanLetters_7 : decode cX9_meanLetters 7 = .ok (.iconst 0, 1) := by decide +kernel
theorem dX9_meanLetters_8 : decode cX9_meanLetters 8 = .ok (.istore_n 2, 1) := by decide +kernel
theorem dX9_meanLetters_9 : decode cX9_meanLetters 9 = .ok (.iconst 0, 1) := by decide +kernel
theorem dX9_meanLetters_10 : decode cX9_meanLetters 10 = .ok (.istore_n 3, 1) := by decide +kernel
theorem dX9_meanLetters_11 : decode cX9_meanLetters 11 = .ok (.iload_n 3, 1) := by decide +kernel
theorem dX9_meanLetters_12 : decode cX9_meanLetters 12 = .ok (.aload_n 0, 1) := by decide +kernel
theorem dX9_meanLetters_13 : decode cX9_meanLetters 13 = .ok (.getfield 91, 3) := by decide +kernel
theorem dX9_meanLetters_16 : decode cX9_meanLetters 16 = .ok (.if_icmp .ge 34, 3) := by decide +kernel
theorem dX9_meanLetters_19 : decode cX9_meanLetters 19 = .ok (.iload_n 1, 1) := by decide +kernel
theorem dX9_meanLetters_20 : decode cX9_meanLetters 20 = .ok (.aload_n 0, 1) := by decide +kernel
theorem dX9_meanLetters_21 : decode cX9_meanLetters 21 = .ok (.iload_n 3, 1) := by decide +kernel
theorem dX9_meanLetters_22 : decode cX9_meanLetters 22 = .ok (.invokevirtual 123, 3) := by decide +kernel
theorem dX9_meanLetters_25 : decode cX9_meanLetters 25 = .ok (.ifCond .eq 7, 3) := by decide +kernel
theorem dX9_meanLetters_28 : decode cX9_meanLetters 28 = .ok (.iconst 1, 1) := by decide +kernel
theorem dX9_meanLetters_29 : decode cX9_meanLetters 29 = .ok (.goto 4, 3) := by decide +kernel
theorem dX9_meanLetters_32 : decode cX9_meanLetters 32 = .ok (.iconst 0, 1) := by decide +kernel
theorem dX9_meanLetters_33 : decode cX9_meanLetters 33 = .ok (.iadd, 1) := by decide +kernel
theorem dX9_meanLetters_34 : decode cX9_meanLetters 34 = .ok (.istore_n 1, 1) := by decide +kernel
theorem dX9_meanLetters_35 : decode cX9_meanLetters 35 = .ok (.iload_n 2, 1) := by decide +kernel
theorem dX9_meanLetters_36 : decode cX9_meanLetters 36 = .ok (.aload_n 0, 1) := by decide +kernel
theorem dX9_meanLetters_37 : decode cX9_meanLetters 37 = .ok (.getfield 31, 3) := by decide +kernel
theorem dX9_meanLetters_40 : decode cX9_meanLetters 40 = .ok (.iload_n 3, 1) := by decide +kernel
theorem dX9_meanLetters_41 : decode cX9_meanLetters 41 = .ok (.iaload, 1) := by decide +kernel
theorem dX9_meanLetters_42 : decode cX9_meanLetters 42 = .ok (.iadd, 1) := by decide +kernel
theorem dX9_meanLetters_43 : decode cX9_meanLetters 43 = .ok (.istore_n 2, 1) := by decide +kernel
theorem dX9_meanLetters_44 : decode cX9_meanLetters 44 = .ok (.iinc 3 1, 3) := by decide +kernel
theorem dX9_meanLetters_47 : decode cX9_meanLetters 47 = .ok (.goto (-36), 3) := by decide +kernel
theorem dX9_meanLetters_50 : decode cX9_meanLetters 50 = .ok (.iload_n 1, 1) := by decide +kernel
theorem dX9_meanLetters_51 : decode cX9_meanLetters 51 = .ok (.ifCond .ne 10, 3) := by decide +kernel
theorem dX9_meanLetters_54 : decode cX9_meanLetters 54 = .ok (.aload_n 0, 1) := by decide +kernel
theorem dX9_meanLetters_55 : decode cX9_meanLetters 55 = .ok (.iconst 1, 1) := by decide +kernel
theorem dX9_meanLetters_56 : decode cX9_meanLetters 56 = .ok (.invokevirtual 100, 3) := by decide +kernel
theorem dX9_meanLetters_59 : decode cX9_meanLetters 59 = .ok (.i2d, 1) := by decide +kernel
theorem dX9_meanLetters_60 : decode cX9_meanLetters 60 = .ok (.dreturn, 1) := by decide +kernel
theorem dX9_meanLetters_61 : decode cX9_meanLetters 61 = .ok (.iload_n 2, 1) := by decide +kernel
theorem dX9_meanLetters_62 : decode cX9_meanLetters 62 = .ok (.i2d, 1) := by decide +kernel
theorem dX9_meanLetters_63 : decode cX9_meanLetters 63 = .ok (.iload_n 1, 1) := by decide +kernel
theorem dX9_meanLetters_64 : decode cX9_meanLetters 64 = .ok (.i2d, 1) := by decide +kernel
theorem dX9_meanLetters_65 : decode cX9_meanLetters 65 = .ok (.ddiv, 1) := by decide +kernel
theorem dX9_meanLetters_66 : decode cX9_meanLetters 66 = .ok (.dreturn, 1) := by decide +kernel
end
section
/-! Rows for answers that are decided; what the plain calls do to the village. -/
section DIF
variable {G : GC} {mi : MI} {R : Room} {Qf : List Frame → Array Value → State → State → Prop} {pc : Nat} {L : List (Nat × Value)} {st : List Value} {M : Mem} {kc ks : Nat}
theorem r_dif_eq {P : Prop} [Decidable P] {off : Int} {tgt : Nat} (d : decode mi.2.1 pc = .ok (.ifCond .eq off, 3)) (ht : (pc : Int) + off = (tgt : Int)) (kt : ¬ P → SWG G mi R Qf tgt L st M kc ks) (kf : P → SWG G mi R Qf (pc + 3) L st M kc ks) : SWG G mi R Qf pc L (.int (bz (decide P)) :: st) M kc ks :=
  r_bif_eq d ht (fun h => kt (of_decide_eq_false h)) (fun h => kf (of_decide_eq_true h))
theorem r_dif_ne {P : Prop} [Decidable P] {off : Int} {tgt : Nat} (d : decode mi.2.1 pc = .ok (.ifCond .ne off, 3)) (ht : (pc : Int) + off = (tgt : Int)) (kt : P → SWG G mi R Qf tgt L st M kc ks) (kf : ¬ P → SWG G mi R Qf (pc + 3) L st M kc ks) : SWG G mi R Qf pc L (.int (bz (decide P)) :: st) M kc ks :=
  r_bif_ne d ht (fun h => kt (of_decide_eq_true h)) (fun h => kf (of_decide_eq_false h))
theorem bz_d {P : Prop} [Decidable P] (h : P) : iz 1 = bz (decide P) := by rw [decide_eq_true h]; rfl
theorem bz_nd {P : Prop} [Decidable P] (h : ¬ P) : iz 0 = bz (decide P) := by rw [decide_eq_false h]; rfl
theorem bz_T {b : Bool} (h : b = true) : iz 1 = bz b := by rw [h]; rfl
theorem bz_F {b : Bool} (h : b = false) : iz 0 = bz b := by rw [h]; rfl
end DIF
section OPS
abbrev Rs : Type := St × Nat × Int
/-- a number in a range -/
abbrev bt2 (v a b : Int) : Prop := a ≤ v ∧ v ≤ b
def opAddPlace (σ : St) : Rs := if σ.1 0 = 10 then (σ, 1, 0) else (stS σ 0 (σ.1 0 + 1), 0, σ.1 0)
def opAddStreet (σ : St) (a b l : Int) (w : Bool) : Rs :=
  if ¬ bt2 a 0 (σ.1 0 - 1) ∨ ¬ bt2 b 0 (σ.1 0 - 1) then (σ, 1, 0) else if a = b ∨ ¬ bt2 l 1 99 then (σ, 2, 0) else if σ.1 1 = 16 then (σ, 3, 0) else
  (stS (stA (stA (stA (stA (stA σ 1 (σ.1 1) a.toNat) 2 (σ.1 1) b.toNat) 3 (σ.1 1) l.toNat) 13 (σ.1 1) (if w then 1 else 0)) 4 (σ.1 1) 0) 1 (σ.1 1 + 1), 0, σ.1 1)
def opAddHouse (σ : St) (s d o : Int) : Rs :=
  if ¬ bt2 s 0 (σ.1 1 - 1) then (σ, 1, 0) else if ¬ bt2 d 0 1 ∨ ¬ bt2 o 0 (σ.2 3 s.toNat) then (σ, 2, 0) else if σ.1 2 = 30 then (σ, 3, 0) else
  (stS (stA (stA (stA σ 5 (σ.1 2) s.toNat) 6 (σ.1 2) d.toNat) 7 (σ.1 2) o.toNat) 2 (σ.1 2 + 1), 0, σ.1 2)
def opAddRound (σ : St) (l : Int) : Rs := if ¬ bt2 l 1 999 then (σ, 1, 0) else if σ.1 3 = 4 then (σ, 2, 0) else (stS (stA σ 9 (σ.1 3) l.toNat) 3 (σ.1 3 + 1), 0, σ.1 3)
def opAssign (σ : St) (s r : Int) : Rs := if ¬ bt2 s 0 (σ.1 1 - 1) ∨ ¬ bt2 r 0 (σ.1 3 - 1) then (σ, 1, 0) else (stA σ 4 s.toNat (r.toNat + 1), 0, (σ.2 4 s.toNat : Int) - 1)
def opSetBag (σ : St) (w : Int) : Rs := if ¬ bt2 w 0 99 then (σ, 1, 0) else (stS σ 5 w.toNat, 0, σ.1 5)
def opLetters (σ : St) (h c : Int) : Rs := if ¬ bt2 h 0 (σ.1 2 - 1) then (σ, 1, 0) else if ¬ bt2 c 1 20 then (σ, 2, 0) else if 99 < (σ.2 8 h.toNat : Int) + c then (σ, 3, 0) else (stA σ 8 h.toNat (σ.2 8 h.toNat + c.toNat), 0, (σ.2 8 h.toNat : Int) + c)
def opParcel (σ : St) (h w d : Int) : Rs := if ¬ bt2 h 0 (σ.1 2 - 1) then (σ, 1, 0) else if ¬ bt2 w 1 99 ∨ ¬ bt2 d 1 999 then (σ, 2, 0) else if σ.1 4 = 20 then (σ, 3, 0) else
  (stS (stA (stA (stA (stA σ 10 (σ.1 4) h.toNat) 11 (σ.1 4) w.toNat) 12 (σ.1 4) d.toNat) 14 (σ.1 4) 0) 4 (σ.1 4 + 1), 0, σ.1 4)
def opNewDay (σ : St) : Rs := (stS (stS (stF σ 8 (fun _ => 0)) 4 0) 6 0, 0, cnt (post σ) (σ.1 2))
def opRoundOf (σ : St) (s : Int) : Rs := if bt2 s 0 (σ.1 1 - 1) then (σ, 0, (σ.2 4 s.toNat : Int) - 1) else (σ, 1, 0)
def opLettersOf (σ : St) (h : Int) : Rs := if bt2 h 0 (σ.1 2 - 1) then (σ, 0, σ.2 8 h.toNat) else (σ, 1, 0)
def opIsDue (σ : St) (h : Int) : Rs := if bt2 h 0 (σ.1 2 - 1) then (σ, 0, if post σ h.toNat then 1 else 0) else (σ, 1, 0)
def opDue (σ : St) (r : Int) : Rs := if bt2 r 0 (σ.1 3 - 1) then (σ, 0, dueN σ (2 ^ r.toNat)) else (σ, 1, 0)
/-- the first of n with P, or none -/
def fnd (P : Nat → Bool) : Nat → Option Nat
  | 0 => none
  | n + 1 => match fnd P n with
    | some i => some i
    | none => if P n then some n else none
def atB (σ : St) (s d r : Int) (h : Nat) : Bool := decide ((σ.2 5 h : Int) = s) && decide ((σ.2 6 h : Int) = d) && decide ((rank σ h : Int) = r)
def opHouseAt (σ : St) (s d r : Int) : Rs := if ¬ bt2 s 0 (σ.1 1 - 1) then (σ, 1, 0) else if ¬ bt2 d 0 1 then (σ, 2, 0) else match fnd (atB σ s d r) (σ.1 2) with
  | some h => (σ, 0, h)
  | none => (σ, 3, 0)
end OPS
section MPS
variable {M M1 : Mem} {Y : Nat → Nat} {σ : St} {c c' : Nat}
theorem mp0 (h : RM M Y σ) : MP Y M σ 0 (sI M 576 (upd (mI M 576) (Y 0) (iz 0))) := ⟨h.w, by rw [mI_sI]; simp [upd], FrM.i⟩
theorem mpf (h : MP Y M σ c' M1) (c : Nat) : MP Y M σ c (sI M1 576 (upd (mI M1 576) (Y 0) (iz (c : Int)))) := ⟨h.1.w, by rw [mI_sI]; simp [upd], h.2.2.tr FrM.i⟩
/-- what a public call of the reference promises -/
def MR (Y : Nat → Nat) (M : Mem) (o : Rs) : Option Value → Mem → Prop := rI fun r M' => MP Y M o.1 o.2.1 M' ∧ (o.2.1 = 0 → r = iz o.2.2)
theorem mr_of {o : Rs} {σ' : St} {r : Int32} {M' : Mem} {z : Int} (h : MP Y M σ' c M') (ho : o = (σ', c, z)) (hr : c = 0 → r = iz z) : MR Y M o (some (.int r)) M' := by
  subst ho; exact ⟨r, rfl, h, hr⟩
end MPS
end
section
/-! The reference: its small methods. -/
section MD0
variable {G : GC} {mi : MI} {R : Room} {Qf : List Frame → Array Value → State → State → Prop} {pc : Nat} {L : List (Nat × Value)} {st : List Value} {kc ks : Nat}
theorem gm {P : Mem → Prop} {M1 : Mem} (h : P M1) (k : ∀ M', P M' → SWG G mi R Qf pc L st M' kc ks) : SWG G mi R Qf pc L st M1 kc ks := k M1 h
theorem lkI {a b : Int} (h : a = b) : some (Value.int (iz a)) = some (Value.int (iz b)) := by rw [h]
theorem cnt_T {P : Nat → Bool} {i : Nat} (h : P i = true) : ((cnt P (i + 1) : Nat) : Int) = (cnt P i : Int) + 1 := by simp only [cnt, h, if_true]; omega
theorem cnt_F {P : Nat → Bool} {i : Nat} (h : P i = false) : ((cnt P (i + 1) : Nat) : Int) = (cnt P i : Int) + 0 := by simp [cnt, h]
end MD0
section MD1
variable {G : GC} {M : Mem} {Y : Nat → Nat} {σ : St} {T : Nat}
theorem m_fails (hc : mC M (Y 0) = some (9, 0)) (c : Int) : Ht G iX9_fails yX9_fails 2 [.ref (Y 0), .int (iz c)] M (rP (iz 0) (sI M 576 (upd (mI M 576) (Y 0) (iz c)))) nX 0 0 := by
  refine ht_intro (by decide +kernel) rfl rfl rfl (Nat.le_of_ble_eq_true rfl) ?_
  refine r_aload_n dX9_fails_0 rfl ?_
  refine r_iload_n dX9_fails_1 rfl ?_
  refine r_putI qX9_81 dX9_fails_2 hc (kk := ?_)
  refine r_iconst dX9_fails_5 ?_
  exact r_iret dX9_fails_6 (⟨rfl, rfl⟩)
theorem m_isBetween (v a b : Int) (hv : inR v) (ha : inR a) (hb : inR b) : Ht G iX9_isBetween yX9_isBetween 2 [.int (iz v), .int (iz a), .int (iz b)] M (rP (bz (decide (bt2 v a b))) M) nX 0 0 := by
  refine ht_intro (by decide +kernel) rfl rfl rfl (Nat.le_of_ble_eq_true rfl) ?_
  refine r_iload_n dX9_isBetween_0 rfl ?_
  refine r_iload_n dX9_isBetween_1 rfl ?_
  refine r_icmp_gt (tgt := 14) dX9_isBetween_2 (by decide) (kt := fun z2 => ?_) (kf := fun z2 => ?_)
  · refine r_iconst dX9_isBetween_14 ?_
    exact r_iret dX9_isBetween_15 (rP_of (by first | exact bz_d (by omega) | exact bz_nd (by omega)))
  · refine r_iload_n dX9_isBetween_5 rfl ?_
    refine r_iload_n dX9_isBetween_6 rfl ?_
    refine r_icmp_gt (tgt := 14) dX9_isBetween_7 (by decide) (kt := fun z7 => ?_) (kf := fun z7 => ?_)
    · refine r_iconst dX9_isBetween_14 ?_
      exact r_iret dX9_isBetween_15 (rP_of (by first | exact bz_d (by omega) | exact bz_nd (by omega)))
    · refine r_iconst dX9_isBetween_10 ?_
      refine r_goto (tgt := 15) dX9_isBetween_11 (by decide) ?_
      exact r_iret dX9_isBetween_15 (rP_of (by first | exact bz_d (by omega) | exact bz_nd (by omega)))
theorem m_thrown {c : Int32} (hc : mC M (Y 0) = some (9, 0)) (h : mI M 576 (Y 0) = c) : Ht G iX9_thrown yX9_thrown 2 [.ref (Y 0)] M (rP c M) nX 0 0 := by
  refine ht_intro (by decide +kernel) rfl rfl rfl (Nat.le_of_ble_eq_true rfl) ?_
  refine r_aload_n dX9_thrown_0 rfl ?_
  refine r_getI qX9_81 dX9_thrown_1 hc h (kk := ?_)
  exact r_iret dX9_thrown_4 (rP_mk _ _)
theorem m_isStreet (hM : RM M Y σ) (hb : σ.1 1 ≤ 30) (x : Int) (hx : inR x) : Ht G iX9_isStreet yX9_isStreet 4 [.ref (Y 0), .int (iz x)] M (rP (bz (decide (bt2 x 0 (σ.1 1 - 1)))) M) nX 0 0 := by
  refine ht_intro (by decide +kernel) rfl rfl rfl (Nat.le_of_ble_eq_true rfl) ?_
  refine r_iload_n dX9_isStreet_0 rfl ?_
  refine r_iconst dX9_isStreet_1 ?_
  refine r_aload_n dX9_isStreet_2 rfl ?_
  refine r_getI qX9_84 dX9_isStreet_3 hM.o (x := iz (σ.1 1 : Int)) (hM.s 1) (kk := ?_)
  refine r_iconst dX9_isStreet_6 ?_
  refine r_isub dX9_isStreet_7 ?_
  refine r_callS (mi := iX9_isStreet) vX9_87 dX9_isStreet_8 (m_isBetween x 0 (σ.1 1 - 1) hx (by omega) (by omega)) (hm := ⟨by omega, by omega⟩) (k := kP ?_) (kx := r_nox)
  exact r_zret dX9_isStreet_11 (rP_mk _ _)
theorem m_isHouse (hM : RM M Y σ) (hb : σ.1 2 ≤ 30) (x : Int) (hx : inR x) : Ht G iX9_isHouse yX9_isHouse 4 [.ref (Y 0), .int (iz x)] M (rP (bz (decide (bt2 x 0 (σ.1 2 - 1)))) M) nX 0 0 := by
  refine ht_intro (by decide +kernel) rfl rfl rfl (Nat.le_of_ble_eq_true rfl) ?_
  refine r_iload_n dX9_isHouse_0 rfl ?_
  refine r_iconst dX9_isHouse_1 ?_
  refine r_aload_n dX9_isHouse_2 rfl ?_
  refine r_getI qX9_91 dX9_isHouse_3 hM.o (x := iz (σ.1 2 : Int)) (hM.s 2) (kk := ?_)
  refine r_iconst dX9_isHouse_6 ?_
  refine r_isub dX9_isHouse_7 ?_
  refine r_callS (mi := iX9_isHouse) vX9_87 dX9_isHouse_8 (m_isBetween x 0 (σ.1 2 - 1) hx (by omega) (by omega)) (hm := ⟨by omega, by omega⟩) (k := kP ?_) (kx := r_nox)
  exact r_zret dX9_isHouse_11 (rP_mk _ _)
theorem m_isRound (hM : RM M Y σ) (hb : σ.1 3 ≤ 30) (x : Int) (hx : inR x) : Ht G iX9_isRound yX9_isRound 4 [.ref (Y 0), .int (iz x)] M (rP (bz (decide (bt2 x 0 (σ.1 3 - 1)))) M) nX 0 0 := by
  refine ht_intro (by decide +kernel) rfl rfl rfl (Nat.le_of_ble_eq_true rfl) ?_
  refine r_iload_n dX9_isRound_0 rfl ?_
  refine r_iconst dX9_isRound_1 ?_
  refine r_aload_n dX9_isRound_2 rfl ?_
  refine r_getI qX9_94 dX9_isRound_3 hM.o (x := iz (σ.1 3 : Int)) (hM.s 3) (kk := ?_)
  refine r_iconst dX9_isRound_6 ?_
  refine r_isub dX9_isRound_7 ?_
  refine r_callS (mi := iX9_isRound) vX9_87 dX9_isRound_8 (m_isBetween x 0 (σ.1 3 - 1) hx (by omega) (by omega)) (hm := ⟨by omega, by omega⟩) (k := kP ?_) (kx := r_nox)
  exact r_zret dX9_isRound_11 (rP_mk _ _)
theorem m_isPlace (hM : RM M Y σ) (hb : σ.1 0 ≤ 30) (x : Int) (hx : inR x) : Ht G iX9_isPlace yX9_isPlace 4 [.ref (Y 0), .int (iz x)] M (rP (bz (decide (bt2 x 0 (σ.1 0 - 1)))) M) nX 0 0 := by
  refine ht_intro (by decide +kernel) rfl rfl rfl (Nat.le_of_ble_eq_true rfl) ?_
  refine r_iload_n dX9_isPlace_0 rfl ?_
  refine r_iconst dX9_isPlace_1 ?_
  refine r_aload_n dX9_isPlace_2 rfl ?_
  refine r_getI qX9_53 dX9_isPlace_3 hM.o (x := iz (σ.1 0 : Int)) (hM.s 0) (kk := ?_)
  refine r_iconst dX9_isPlace_6 ?_
  refine r_isub dX9_isPlace_7 ?_
  refine r_callS (mi := iX9_isPlace) vX9_87 dX9_isPlace_8 (m_isBetween x 0 (σ.1 0 - 1) hx (by omega) (by omega)) (hm := ⟨by omega, by omega⟩) (k := kP ?_) (kx := r_nox)
  exact r_zret dX9_isPlace_11 (rP_mk _ _)
theorem m_isParcel (hM : RM M Y σ) (hb : σ.1 4 ≤ 30) (x : Int) (hx : inR x) : Ht G iX9_isParcel yX9_isParcel 4 [.ref (Y 0), .int (iz x)] M (rP (bz (decide (bt2 x 0 (σ.1 4 - 1)))) M) nX 0 0 := by
  refine ht_intro (by decide +kernel) rfl rfl rfl (Nat.le_of_ble_eq_true rfl) ?_
  refine r_iload_n dX9_isParcel_0 rfl ?_
  refine r_iconst dX9_isParcel_1 ?_
  refine r_aload_n dX9_isParcel_2 rfl ?_
  refine r_getI qX9_97 dX9_isParcel_3 hM.o (x := iz (σ.1 4 : Int)) (hM.s 4) (kk := ?_)
  refine r_iconst dX9_isParcel_6 ?_
  refine r_isub dX9_isParcel_7 ?_
  refine r_callS (mi := iX9_isParcel) vX9_87 dX9_isParcel_8 (m_isBetween x 0 (σ.1 4 - 1) hx (by omega) (by omega)) (hm := ⟨by omega, by omega⟩) (k := kP ?_) (kx := r_nox)
  exact r_zret dX9_isParcel_11 (rP_mk _ _)
theorem m_addPlace (hM : RM M Y σ) (hO : Ok σ T) : Ht G iX9_addPlace yX9_addPlace 10 [.ref (Y 0)] M (MR Y M (opAddPlace σ)) nX 0 0 := by
  obtain ⟨⟨p1, p2, -⟩, -⟩ := hO
  refine ht_intro (by decide +kernel) rfl rfl rfl (Nat.le_of_ble_eq_true rfl) ?_
  refine r_aload_n dX9_addPlace_0 rfl ?_
  refine r_iconst dX9_addPlace_1 ?_
  refine r_putI qX9_81 dX9_addPlace_2 hM.o (kk := ?_)
  refine gm (P := MP Y M σ 0) (mp0 hM) (fun M1 hP => ?_)
  have hM := hP.1
  refine r_aload_n dX9_addPlace_5 rfl ?_
  refine r_getI qX9_53 dX9_addPlace_6 hM.o (x := iz (σ.1 0 : Int)) (hM.s 0) (kk := ?_)
  refine r_bipush dX9_addPlace_9 (k := ?_)
  refine r_icmp_ne (tgt := 20) dX9_addPlace_11 (by decide) (kt := fun z11 => ?_) (kf := fun z11 => ?_)
  · refine r_aload_n dX9_addPlace_20 rfl ?_
    refine r_dup dX9_addPlace_21 (k := ?_)
    refine r_getI qX9_53 dX9_addPlace_22 hM.o (x := iz (σ.1 0 : Int)) (hM.s 0) (kk := ?_)
    refine r_iconst dX9_addPlace_25 ?_
    refine r_iadd dX9_addPlace_26 ?_
    refine r_putI qX9_53 dX9_addPlace_27 hM.o (kk := ?_)
    refine gm (P := MP Y M (stS σ 0 (σ.1 0 + 1)) 0) ⟨hM.ws 0 (σ.1 0 + 1) rfl (by omega) (fun k h1 h2 i hi => hM.a k i (by have : (stS σ 0 (σ.1 0 + 1)).1 (nOf k) = σ.1 (nOf k) := up_n _ _ (nOf_0 k); omega) h1 h2), (congrFun (mI_sIn _ _ _ _ (by decide)) _).trans hP.2.1, hP.2.2.tr FrM.i⟩ (fun M2 hP => ?_)
    have hM := hP.1
    refine r_aload_n dX9_addPlace_30 rfl ?_
    refine r_getI qX9_53 dX9_addPlace_31 hM.o (x := iz ((σ.1 0 + 1 : Nat) : Int)) (hM.s 0) (kk := ?_)
    refine r_iconst dX9_addPlace_34 ?_
    refine r_isub dX9_addPlace_35 ?_
    exact r_iret dX9_addPlace_36 (mr_of hP (by rw [opAddPlace, if_neg (by omega)]) (fun _ => by show iz (((σ.1 0 + 1 : Nat) : Int) - 1) = _; congr 1; omega))
  · refine r_aload_n dX9_addPlace_14 rfl ?_
    refine r_iconst dX9_addPlace_15 ?_
    refine r_callV (mi := iX9_addPlace) vX9_100 dX9_addPlace_16 hM.o (m_fails hM.o 1) (hm := ⟨by omega, by omega⟩) (k := kP ?_) (kx := r_nox)
    exact r_iret dX9_addPlace_19 (mr_of (mpf hP 1) (by rw [opAddPlace, if_pos (by omega)]) (fun h => absurd h (by decide)))
theorem m_isLight (hM : RM M Y σ) (hO : Ok σ T) (q : Nat) (hq : q < σ.1 4) : Ht G iX9_isLight yX9_isLight 2 [.ref (Y 0), .int (iz (q : Int))] M (rP (bz (light σ q)) M) nX 0 0 := by
  obtain ⟨⟨-, -, -, -, -, p6, p7, -⟩, -, -, -, hQ⟩ := hO
  obtain ⟨a1, a2, a3, a4, a5, a6⟩ := hQ q hq
  refine ht_intro (by decide +kernel) rfl rfl rfl (Nat.le_of_ble_eq_true rfl) ?_
  refine r_aload_n dX9_isLight_0 rfl ?_
  refine r_getR qX9_40 dX9_isLight_1 hM.o (hM.r 11) (kk := ?_)
  refine r_iload_n dX9_isLight_4 rfl ?_
  refine r_iald dX9_isLight_5 (hM.cc 11 11 20) rfl (hM.v 11 _ (hq)) (k := ?_)
  refine r_aload_n dX9_isLight_6 rfl ?_
  refine r_getI qX9_57 dX9_isLight_7 hM.o (x := iz (σ.1 5 : Int)) (hM.s 5) (kk := ?_)
  refine r_icmp_gt (tgt := 26) dX9_isLight_10 (by decide) (kt := fun z10 => ?_) (kf := fun z10 => ?_)
  · refine r_iconst dX9_isLight_26 ?_
    exact r_iret dX9_isLight_27 (rP_of (by first | exact bz_T (by unfold light; simp; omega) | exact bz_F (by unfold light; simp; omega)))
  · refine r_aload_n dX9_isLight_13 rfl ?_
    refine r_getR qX9_50 dX9_isLight_14 hM.o (hM.r 14) (kk := ?_)
    refine r_iload_n dX9_isLight_17 rfl ?_
    refine r_zald dX9_isLight_18 (hM.cc 14 12 20) rfl (hM.v 14 _ (hq)) (k := ?_)
    refine r_if_ne (tgt := 26) dX9_isLight_19 (by decide) (kt := fun z19 => ?_) (kf := fun z19 => ?_)
    · refine r_iconst dX9_isLight_26 ?_
      exact r_iret dX9_isLight_27 (rP_of (by first | exact bz_T (by unfold light; simp; omega) | exact bz_F (by unfold light; simp; omega)))
    · refine r_iconst dX9_isLight_22 ?_
      refine r_goto (tgt := 27) dX9_isLight_23 (by decide) ?_
      exact r_iret dX9_isLight_27 (rP_of (by first | exact bz_T (by unfold light; simp; omega) | exact bz_F (by unfold light; simp; omega)))
theorem m_lights (hM : RM M Y σ) (hO : Ok σ T) (h : Nat) (hh : h < σ.1 2) : Ht G iX9_lights yX9_lights 4 [.ref (Y 0), .int (iz (h : Int))] M (rP (iz (cnt (forH σ h) (σ.1 4) : Int)) M) nX 0 0 := by
  obtain ⟨⟨-, -, -, p3, -, p6, p7, -⟩, -, -, -, hQ⟩ := id hO
  refine ht_intro (by decide +kernel) rfl rfl rfl (Nat.le_of_ble_eq_true rfl) ?_
  have loop : ∀ k i : Nat, i + k = σ.1 4 → SWG G iX9_lights (rmd 4 0 0) (QF G (rP (iz (cnt (forH σ h) (σ.1 4) : Int)) M) nX 0 0) 4 [(3, .int (iz (i : Int))), (2, .int (iz (cnt (forH σ h) i : Int))), (0, .ref (Y 0)), (1, .int (iz (h : Int)))] [] M 0 0 := by
    intro k
    induction k with
    | zero =>
      intro i hi
      have hi2 : i = σ.1 4 := by omega
      subst hi2
      refine r_iload_n dX9_lights_4 rfl ?_
      refine r_aload_n dX9_lights_5 rfl ?_
      refine r_getI qX9_97 dX9_lights_6 hM.o (x := iz (σ.1 4 : Int)) (hM.s 4) (kk := ?_)
      refine r_icmp_ge (tgt := 44) dX9_lights_9 (by decide) (kt := fun z9 => ?_) (kf := fun z9 => (by exfalso; first | omega | simp_all))
      refine r_iload_n dX9_lights_44 rfl ?_
      exact r_iret dX9_lights_45 (rP_mk _ _)
    | succ k ih =>
      intro i hi
      have hq : i < σ.1 4 := by omega
      obtain ⟨a1, a2, a3, a4, a5, a6⟩ := hQ i hq
      refine r_iload_n dX9_lights_4 rfl ?_
      refine r_aload_n dX9_lights_5 rfl ?_
      refine r_getI qX9_97 dX9_lights_6 hM.o (x := iz (σ.1 4 : Int)) (hM.s 4) (kk := ?_)
      refine r_icmp_ge (tgt := 44) dX9_lights_9 (by decide) (kt := fun z9 => (by exfalso; first | omega | simp_all)) (kf := fun z9 => ?_)
      refine r_iload_n dX9_lights_12 rfl ?_
      refine r_aload_n dX9_lights_13 rfl ?_
      refine r_getR qX9_37 dX9_lights_14 hM.o (hM.r 10) (kk := ?_)
      refine r_iload_n dX9_lights_17 rfl ?_
      refine r_iald dX9_lights_18 (hM.cc 10 11 20) rfl (hM.v 10 _ (hq)) (k := ?_)
      refine r_iload_n dX9_lights_19 rfl ?_
      refine r_icmp_ne (tgt := 35) dX9_lights_20 (by decide) (kt := fun z20 => ?_) (kf := fun z20 => ?_)
      · refine r_iconst dX9_lights_35 ?_
        refine r_iadd dX9_lights_36 ?_
        refine r_istore_n dX9_lights_37 (k := ?_)
        refine r_iinc dX9_lights_38 rfl (k := ?_)
        refine r_goto (tgt := 4) dX9_lights_41 (by decide) ?_
        refine r_loc' (ih (i + 1) (by omega)) ⟨rfl, ?_, rfl, rfl, trivial⟩
        first
          | exact lkI (cnt_T (by simp only [forH, Bool.and_eq_true, beq_iff_eq]; exact ⟨by omega, by assumption⟩)).symm
          | exact lkI (cnt_F (by simp only [forH, Bool.and_eq_false_iff, beq_eq_false_iff_ne]; first | exact Or.inl (by omega) | exact Or.inr (by assumption))).symm
      · refine r_aload_n dX9_lights_23 rfl ?_
        refine r_iload_n dX9_lights_24 rfl ?_
        refine r_callV (mi := iX9_lights) vX9_117 dX9_lights_25 hM.o (m_isLight hM hO i hq) (hm := ⟨by omega, by omega⟩) (k := kP ?_) (kx := r_nox)
        refine r_bif_eq (tgt := 35) dX9_lights_28 (by decide) (kt := fun z28 => ?_) (kf := fun z28 => ?_)
        · refine r_iconst dX9_lights_35 ?_
          refine r_iadd dX9_lights_36 ?_
          refine r_istore_n dX9_lights_37 (k := ?_)
          refine r_iinc dX9_lights_38 rfl (k := ?_)
          refine r_goto (tgt := 4) dX9_lights_41 (by decide) ?_
          refine r_loc' (ih (i + 1) (by omega)) ⟨rfl, ?_, rfl, rfl, trivial⟩
          first
            | exact lkI (cnt_T (by simp only [forH, Bool.and_eq_true, beq_iff_eq]; exact ⟨by omega, by assumption⟩)).symm
            | exact lkI (cnt_F (by simp only [forH, Bool.and_eq_false_iff, beq_eq_false_iff_ne]; first | exact Or.inl (by omega) | exact Or.inr (by assumption))).symm
        · refine r_iconst dX9_lights_31 ?_
          refine r_goto (tgt := 36) dX9_lights_32 (by decide) ?_
          refine r_iadd dX9_lights_36 ?_
          refine r_istore_n dX9_lights_37 (k := ?_)
          refine r_iinc dX9_lights_38 rfl (k := ?_)
          refine r_goto (tgt := 4) dX9_lights_41 (by decide) ?_
          refine r_loc' (ih (i + 1) (by omega)) ⟨rfl, ?_, rfl, rfl, trivial⟩
          first
            | exact lkI (cnt_T (by simp only [forH, Bool.and_eq_true, beq_iff_eq]; exact ⟨by omega, by assumption⟩)).symm
            | exact lkI (cnt_F (by simp only [forH, Bool.and_eq_false_iff, beq_eq_false_iff_ne]; first | exact Or.inl (by omega) | exact Or.inr (by assumption))).symm
  refine r_iconst dX9_lights_0 ?_
  refine r_istore_n dX9_lights_1 (k := ?_)
  refine r_iconst dX9_lights_2 ?_
  refine r_istore_n dX9_lights_3 (k := ?_)
  exact r_loc' (loop (σ.1 4) 0 (by omega)) ⟨rfl, rfl, rfl, rfl, trivial⟩
theorem m_isDueNow (hM : RM M Y σ) (hO : Ok σ T) (h : Nat) (hh : h < σ.1 2) : Ht G iX9_isDueNow yX9_isDueNow 6 [.ref (Y 0), .int (iz (h : Int))] M (rP (bz (post σ h)) M) nX 0 0 := by
  obtain ⟨⟨-, -, -, p3, -, p6, p7, -⟩, -, hH, -, -⟩ := id hO
  obtain ⟨a1, a2, a3, a4⟩ := hH h hh
  have hc := cnt_le (forH σ h) (σ.1 4)
  have ha := cnt_any (forH σ h) (σ.1 4)
  refine ht_intro (by decide +kernel) rfl rfl rfl (Nat.le_of_ble_eq_true rfl) ?_
  refine r_aload_n dX9_isDueNow_0 rfl ?_
  refine r_getR qX9_31 dX9_isDueNow_1 hM.o (hM.r 8) (kk := ?_)
  refine r_iload_n dX9_isDueNow_4 rfl ?_
  refine r_iald dX9_isDueNow_5 (hM.cc 8 11 30) rfl (hM.v 8 _ (hO.h8 hh)) (k := ?_)
  refine r_if_gt (tgt := 17) dX9_isDueNow_6 (by decide) (kt := fun z6 => ?_) (kf := fun z6 => ?_)
  · refine r_iconst dX9_isDueNow_17 ?_
    refine r_goto (tgt := 22) dX9_isDueNow_18 (by decide) ?_
    exact r_iret dX9_isDueNow_22 (rP_of (by first | exact bz_T (by unfold post; rw [Bool.or_eq_true, ← ha, decide_eq_true_eq]; omega) | exact bz_F (by unfold post; cases e : any (forH σ h) (σ.1 4) <;> simp_all <;> omega)))
  · refine r_aload_n dX9_isDueNow_9 rfl ?_
    refine r_iload_n dX9_isDueNow_10 rfl ?_
    refine r_callV (mi := iX9_isDueNow) vX9_120 dX9_isDueNow_11 hM.o (m_lights hM hO h hh) (hm := ⟨by omega, by omega⟩) (k := kP ?_) (kx := r_nox)
    refine r_if_le (tgt := 21) dX9_isDueNow_14 (by decide) (kt := fun z14 => ?_) (kf := fun z14 => ?_)
    · refine r_iconst dX9_isDueNow_21 ?_
      exact r_iret dX9_isDueNow_22 (rP_of (by first | exact bz_T (by unfold post; rw [Bool.or_eq_true, ← ha, decide_eq_true_eq]; omega) | exact bz_F (by unfold post; cases e : any (forH σ h) (σ.1 4) <;> simp_all <;> omega)))
    · refine r_iconst dX9_isDueNow_17 ?_
      refine r_goto (tgt := 22) dX9_isDueNow_18 (by decide) ?_
      exact r_iret dX9_isDueNow_22 (rP_of (by first | exact bz_T (by unfold post; rw [Bool.or_eq_true, ← ha, decide_eq_true_eq]; omega) | exact bz_F (by unfold post; cases e : any (forH σ h) (σ.1 4) <;> simp_all <;> omega)))
end MD1
end
section
/-! The reference: the calls that build the village. -/
section MD2
variable {G : GC} {M : Mem} {Y : Nat → Nat} {σ : St} {T : Nat}
theorem nat_of {a : Int} (h : 0 ≤ a) : ∃ n : Nat, a = n := ⟨a.toNat, by omega⟩
theorem nOf_no {k j : Nat} (h : nOf k = j) (h5 : 5 ≤ j) (h9 : j < 9) : False := by
  subst h; revert h5 h9; unfold nOf; split <;> omega
theorem stF_stF (σ : St) (k : Nat) (F F' : Nat → Nat) : stF (stF σ k F) k F' = stF σ k F' := Prod.ext rfl (up_up _ _ _ _)
theorem stF_at (σ : St) (k : Nat) (F : Nat → Nat) : (stF σ k F).2 k = F := up_s _ _ _
theorem stA_at (σ : St) (k i v : Nat) : (stA σ k i v).2 k i = v := by
  show va_up σ.2 k (va_up (σ.2 k) i v) k i = v
  rw [up_s, up_s]
theorem mp_s {M1 : Mem} {c : Nat} (h : MP Y M σ c M1) (j v : Nat) {f : Nat} (hn : v ≤ σ.1 j ∨ (5 ≤ j ∧ j < 9)) (hf : f = 591 + j := by rfl) (hj : j < 9 := by decide) : MP Y M (stS σ j v) c (sI M1 f (upd (mI M1 f) (Y 0) (iz (v : Int)))) := by
  refine ⟨h.1.ws j v hf hj (fun k h1 h2 i hi => h.1.a k i ?_ h1 h2), (congrFun (mI_sIn _ _ _ _ (by omega)) _).trans h.2.1, h.2.2.tr FrM.i⟩
  by_cases e : nOf k = j
  · rcases hn with hn | hn
    · have : (stS σ j v).1 (nOf k) = v := by rw [e]; exact up_s _ _ _
      rw [e]; omega
    · exact (nOf_no e hn.1 hn.2).elim
  · have : (stS σ j v).1 (nOf k) = σ.1 (nOf k) := up_n _ _ e
    omega
theorem mp_a {M1 : Mem} {c : Nat} (h : MP Y M σ c M1) (k : Nat) {K : Nat → Int32} {F : Nat → Nat} (hK : ∀ i, i < σ.1 (nOf k) → K i = vz k (F i)) (h1 : 1 ≤ k := by decide) (h2 : k < 15 := by decide) : MP Y M (stF σ k F) c (sA M1 (Y k) K) := ⟨h.1.wf k hK h1 h2, h.2.1, h.2.2.tr (FrM.a k (arK_of k h1 h2))⟩
theorem m_addStreet (hM : RM M Y σ) (hO : Ok σ T) (a b l : Int) (w : Bool) (ha : inR a) (hb : inR b) (hl : inR l) : Ht G iX9_addStreet yX9_addStreet 10 [.ref (Y 0), .int (iz a), .int (iz b), .int (iz l), .int (bz w)] M (MR Y M (opAddStreet σ a b l w)) nX 0 0 := by
  obtain ⟨⟨p1, p2, p3, -⟩, -⟩ := hO
  refine ht_intro (by decide +kernel) rfl rfl rfl (Nat.le_of_ble_eq_true rfl) ?_
  refine r_aload_n dX9_addStreet_0 rfl ?_
  refine r_iconst dX9_addStreet_1 ?_
  refine r_putI qX9_81 dX9_addStreet_2 hM.o (kk := ?_)
  refine gm (P := MP Y M σ 0) (mp0 hM) (fun M1 hP => ?_)
  have hM := hP.1
  refine r_aload_n dX9_addStreet_5 rfl ?_
  refine r_iload_n dX9_addStreet_6 rfl ?_
  refine r_callV (mi := iX9_addStreet) vX9_104 dX9_addStreet_7 hM.o (m_isPlace hM (by omega) a ha) (hm := ⟨by omega, by omega⟩) (k := kP ?_) (kx := r_nox)
  refine r_dif_eq (tgt := 21) dX9_addStreet_10 (by decide) (kt := fun z10 => ?_) (kf := fun z10 => ?_)
  · refine r_aload_n dX9_addStreet_21 rfl ?_
    refine r_iconst dX9_addStreet_22 ?_
    refine r_callV (mi := iX9_addStreet) vX9_100 dX9_addStreet_23 hM.o (m_fails hM.o 1) (hm := ⟨by omega, by omega⟩) (k := kP ?_) (kx := r_nox)
    exact r_iret dX9_addStreet_26 (mr_of (mpf hP 1) (by unfold opAddStreet; repeat (first | rw [if_pos (by omega)] | rw [if_neg (by omega)])) (fun h => absurd h (by decide)))
  · refine r_aload_n dX9_addStreet_13 rfl ?_
    refine r_iload_n dX9_addStreet_14 rfl ?_
    refine r_callV (mi := iX9_addStreet) vX9_104 dX9_addStreet_15 hM.o (m_isPlace hM (by omega) b hb) (hm := ⟨by omega, by omega⟩) (k := kP ?_) (kx := r_nox)
    refine r_dif_ne (tgt := 27) dX9_addStreet_18 (by decide) (kt := fun z18 => ?_) (kf := fun z18 => ?_)
    · refine r_iload_n dX9_addStreet_27 rfl ?_
      refine r_iload_n dX9_addStreet_28 rfl ?_
      refine r_icmp_eq (tgt := 42) dX9_addStreet_29 (by decide) (kt := fun z29 => ?_) (kf := fun z29 => ?_)
      · refine r_aload_n dX9_addStreet_42 rfl ?_
        refine r_iconst dX9_addStreet_43 ?_
        refine r_callV (mi := iX9_addStreet) vX9_100 dX9_addStreet_44 hM.o (m_fails hM.o 2) (hm := ⟨by omega, by omega⟩) (k := kP ?_) (kx := r_nox)
        exact r_iret dX9_addStreet_47 (mr_of (mpf hP 2) (by unfold opAddStreet; repeat (first | rw [if_pos (by omega)] | rw [if_neg (by omega)])) (fun h => absurd h (by decide)))
      · refine r_iload_n dX9_addStreet_32 rfl ?_
        refine r_iconst dX9_addStreet_33 ?_
        refine r_bipush dX9_addStreet_34 (k := ?_)
        refine r_callS (mi := iX9_addStreet) vX9_87 dX9_addStreet_36 (m_isBetween l 1 99 hl (by omega) (by omega)) (hm := ⟨by omega, by omega⟩) (k := kP ?_) (kx := r_nox)
        refine r_dif_ne (tgt := 48) dX9_addStreet_39 (by decide) (kt := fun z39 => ?_) (kf := fun z39 => ?_)
        · refine r_aload_n dX9_addStreet_48 rfl ?_
          refine r_getI qX9_84 dX9_addStreet_49 hM.o (x := iz (σ.1 1 : Int)) (hM.s 1) (kk := ?_)
          refine r_bipush dX9_addStreet_52 (k := ?_)
          refine r_icmp_ne (tgt := 63) dX9_addStreet_54 (by decide) (kt := fun z54 => ?_) (kf := fun z54 => ?_)
          · obtain ⟨a, rfl⟩ := nat_of (a := a) (by omega)
            obtain ⟨b, rfl⟩ := nat_of (a := b) (by omega)
            obtain ⟨l, rfl⟩ := nat_of (a := l) (by omega)
            have hP := ap_0 (σ.1 1) hP
            refine r_aload_n dX9_addStreet_63 rfl ?_
            refine r_getR qX9_9 dX9_addStreet_64 hM.o (hM.r 1) (kk := ?_)
            refine r_aload_n dX9_addStreet_67 rfl ?_
            refine r_getI qX9_84 dX9_addStreet_68 hM.o (x := iz (σ.1 1 : Int)) (hM.s 1) (kk := ?_)
            refine r_iload_n dX9_addStreet_71 rfl ?_
            refine r_iast dX9_addStreet_72 (hM.cc 1 11 16) rfl (k := ?_)
            refine gm (ap_st (v := a) hP) (fun M1 hP => ?_)
            have hM := hP.1.1
            refine r_aload_n dX9_addStreet_73 rfl ?_
            refine r_getR qX9_13 dX9_addStreet_74 hM.o (hM.r 2) (kk := ?_)
            refine r_aload_n dX9_addStreet_77 rfl ?_
            refine r_getI qX9_84 dX9_addStreet_78 hM.o (x := iz (σ.1 1 : Int)) (hM.s 1) (kk := ?_)
            refine r_iload_n dX9_addStreet_81 rfl ?_
            refine r_iast dX9_addStreet_82 (hM.cc 2 11 16) rfl (k := ?_)
            refine gm (ap_st (v := b) hP) (fun M1 hP => ?_)
            have hM := hP.1.1
            refine r_aload_n dX9_addStreet_83 rfl ?_
            refine r_getR qX9_16 dX9_addStreet_84 hM.o (hM.r 3) (kk := ?_)
            refine r_aload_n dX9_addStreet_87 rfl ?_
            refine r_getI qX9_84 dX9_addStreet_88 hM.o (x := iz (σ.1 1 : Int)) (hM.s 1) (kk := ?_)
            refine r_iload_n dX9_addStreet_91 rfl ?_
            refine r_iast dX9_addStreet_92 (hM.cc 3 11 16) rfl (k := ?_)
            refine gm (ap_st (v := l) hP) (fun M1 hP => ?_)
            have hM := hP.1.1
            refine r_aload_n dX9_addStreet_93 rfl ?_
            refine r_getR qX9_46 dX9_addStreet_94 hM.o (hM.r 13) (kk := ?_)
            refine r_aload_n dX9_addStreet_97 rfl ?_
            refine r_getI qX9_84 dX9_addStreet_98 hM.o (x := iz (σ.1 1 : Int)) (hM.s 1) (kk := ?_)
            refine r_iload dX9_addStreet_101 rfl ?_
            refine r_zast dX9_addStreet_103 (hM.cc 13 12 16) rfl (k := ?_)
            refine gm (ap_st (v := if w then 1 else 0) hP (bz_vz w)) (fun M1 hP => ?_)
            have hM := hP.1.1
            refine r_aload_n dX9_addStreet_104 rfl ?_
            refine r_getR qX9_19 dX9_addStreet_105 hM.o (hM.r 4) (kk := ?_)
            refine r_aload_n dX9_addStreet_108 rfl ?_
            refine r_getI qX9_84 dX9_addStreet_109 hM.o (x := iz (σ.1 1 : Int)) (hM.s 1) (kk := ?_)
            refine r_iconst dX9_addStreet_112 ?_
            refine r_iast dX9_addStreet_113 (hM.cc 4 11 16) rfl (k := ?_)
            refine gm (ap_st (v := 0) hP) (fun M1 hP => ?_)
            have hM := hP.1.1
            refine r_aload_n dX9_addStreet_114 rfl ?_
            refine r_dup dX9_addStreet_115 (k := ?_)
            refine r_getI qX9_84 dX9_addStreet_116 hM.o (x := iz (σ.1 1 : Int)) (hM.s 1) (kk := ?_)
            refine r_iconst dX9_addStreet_119 ?_
            refine r_iadd dX9_addStreet_120 ?_
            refine r_putI qX9_84 dX9_addStreet_121 hM.o (kk := ?_)
            refine gm (ap_grow hP 1) (fun M1 hP => ?_)
            have hM := hP.1
            refine r_aload_n dX9_addStreet_124 rfl ?_
            refine r_getI qX9_84 dX9_addStreet_125 hM.o (x := iz ((σ.1 1 + 1 : Nat) : Int)) (hM.s 1) (kk := ?_)
            refine r_iconst dX9_addStreet_128 ?_
            refine r_isub dX9_addStreet_129 ?_
            exact r_iret dX9_addStreet_130 (mr_of hP (by unfold opAddStreet; repeat (first | rw [if_pos (by omega)] | rw [if_neg (by omega)]); try rfl) (fun _ => by congr 1; omega))
          · refine r_aload_n dX9_addStreet_57 rfl ?_
            refine r_iconst dX9_addStreet_58 ?_
            refine r_callV (mi := iX9_addStreet) vX9_100 dX9_addStreet_59 hM.o (m_fails hM.o 3) (hm := ⟨by omega, by omega⟩) (k := kP ?_) (kx := r_nox)
            exact r_iret dX9_addStreet_62 (mr_of (mpf hP 3) (by unfold opAddStreet; repeat (first | rw [if_pos (by omega)] | rw [if_neg (by omega)])) (fun h => absurd h (by decide)))
        · refine r_aload_n dX9_addStreet_42 rfl ?_
          refine r_iconst dX9_addStreet_43 ?_
          refine r_callV (mi := iX9_addStreet) vX9_100 dX9_addStreet_44 hM.o (m_fails hM.o 2) (hm := ⟨by omega, by omega⟩) (k := kP ?_) (kx := r_nox)
          exact r_iret dX9_addStreet_47 (mr_of (mpf hP 2) (by unfold opAddStreet; repeat (first | rw [if_pos (by omega)] | rw [if_neg (by omega)])) (fun h => absurd h (by decide)))
    · refine r_aload_n dX9_addStreet_21 rfl ?_
      refine r_iconst dX9_addStreet_22 ?_
      refine r_callV (mi := iX9_addStreet) vX9_100 dX9_addStreet_23 hM.o (m_fails hM.o 1) (hm := ⟨by omega, by omega⟩) (k := kP ?_) (kx := r_nox)
      exact r_iret dX9_addStreet_26 (mr_of (mpf hP 1) (by unfold opAddStreet; repeat (first | rw [if_pos (by omega)] | rw [if_neg (by omega)])) (fun h => absurd h (by decide)))
theorem m_addHouse (hM : RM M Y σ) (hO : Ok σ T) (s d o : Int) (ha : inR s) (hb : inR d) (hl : inR o) : Ht G iX9_addHouse yX9_addHouse 10 [.ref (Y 0), .int (iz s), .int (iz d), .int (iz o)] M (MR Y M (opAddHouse σ s d o)) nX 0 0 := by
  obtain ⟨⟨p1, p2, p3, p4, -⟩, hS, -⟩ := hO
  refine ht_intro (by decide +kernel) rfl rfl rfl (Nat.le_of_ble_eq_true rfl) ?_
  refine r_aload_n dX9_addHouse_0 rfl ?_
  refine r_iconst dX9_addHouse_1 ?_
  refine r_putI qX9_81 dX9_addHouse_2 hM.o (kk := ?_)
  refine gm (P := MP Y M σ 0) (mp0 hM) (fun M1 hP => ?_)
  have hM := hP.1
  refine r_aload_n dX9_addHouse_5 rfl ?_
  refine r_iload_n dX9_addHouse_6 rfl ?_
  refine r_callV (mi := iX9_addHouse) vX9_108 dX9_addHouse_7 hM.o (m_isStreet hM (by omega) s ha) (hm := ⟨by omega, by omega⟩) (k := kP ?_) (kx := r_nox)
  refine r_dif_ne (tgt := 19) dX9_addHouse_10 (by decide) (kt := fun z10 => ?_) (kf := fun z10 => ?_)
  · obtain ⟨s, rfl⟩ := nat_of (a := s) (by omega)
    have hs : s < σ.1 1 := by omega
    obtain ⟨s1, s2, s3, s4, s5, s6, s7⟩ := hS s hs
    refine r_iload_n dX9_addHouse_19 rfl ?_
    refine r_iconst dX9_addHouse_20 ?_
    refine r_iconst dX9_addHouse_21 ?_
    refine r_callS (mi := iX9_addHouse) vX9_87 dX9_addHouse_22 (m_isBetween d 0 1 hb (by omega) (by omega)) (hm := ⟨by omega, by omega⟩) (k := kP ?_) (kx := r_nox)
    refine r_dif_eq (tgt := 42) dX9_addHouse_25 (by decide) (kt := fun z25 => ?_) (kf := fun z25 => ?_)
    · refine r_aload_n dX9_addHouse_42 rfl ?_
      refine r_iconst dX9_addHouse_43 ?_
      refine r_callV (mi := iX9_addHouse) vX9_100 dX9_addHouse_44 hM.o (m_fails hM.o 2) (hm := ⟨by omega, by omega⟩) (k := kP ?_) (kx := r_nox)
      exact r_iret dX9_addHouse_47 (mr_of (mpf hP 2) (by unfold opAddHouse; rw [if_neg (by omega), if_pos (by simp only [Int.toNat_natCast]; omega)]) (fun h => absurd h (by decide)))
    · refine r_iload_n dX9_addHouse_28 rfl ?_
      refine r_iconst dX9_addHouse_29 ?_
      refine r_aload_n dX9_addHouse_30 rfl ?_
      refine r_getR qX9_16 dX9_addHouse_31 hM.o (hM.r 3) (kk := ?_)
      refine r_iload_n dX9_addHouse_34 rfl ?_
      refine r_iald dX9_addHouse_35 (hM.cc 3 11 16) rfl (hM.v 3 _ (hs)) (k := ?_)
      refine r_callS (mi := iX9_addHouse) vX9_87 dX9_addHouse_36 (m_isBetween o 0 (σ.2 3 s : Int) hl (by omega) (by omega)) (hm := ⟨by omega, by omega⟩) (k := kP ?_) (kx := r_nox)
      refine r_dif_ne (tgt := 48) dX9_addHouse_39 (by decide) (kt := fun z39 => ?_) (kf := fun z39 => ?_)
      · refine r_aload_n dX9_addHouse_48 rfl ?_
        refine r_getI qX9_91 dX9_addHouse_49 hM.o (x := iz (σ.1 2 : Int)) (hM.s 2) (kk := ?_)
        refine r_bipush dX9_addHouse_52 (k := ?_)
        refine r_icmp_ne (tgt := 63) dX9_addHouse_54 (by decide) (kt := fun z54 => ?_) (kf := fun z54 => ?_)
        · obtain ⟨d, rfl⟩ := nat_of (a := d) (by omega)
          obtain ⟨o, rfl⟩ := nat_of (a := o) (by omega)
          have hP := ap_0 (σ.1 2) hP
          refine r_aload_n dX9_addHouse_63 rfl ?_
          refine r_getR qX9_22 dX9_addHouse_64 hM.o (hM.r 5) (kk := ?_)
          refine r_aload_n dX9_addHouse_67 rfl ?_
          refine r_getI qX9_91 dX9_addHouse_68 hM.o (x := iz (σ.1 2 : Int)) (hM.s 2) (kk := ?_)
          refine r_iload_n dX9_addHouse_71 rfl ?_
          refine r_iast dX9_addHouse_72 (hM.cc 5 11 30) rfl (k := ?_)
          refine gm (ap_st (v := s) hP) (fun M1 hP => ?_)
          have hM := hP.1.1
          refine r_aload_n dX9_addHouse_73 rfl ?_
          refine r_getR qX9_25 dX9_addHouse_74 hM.o (hM.r 6) (kk := ?_)
          refine r_aload_n dX9_addHouse_77 rfl ?_
          refine r_getI qX9_91 dX9_addHouse_78 hM.o (x := iz (σ.1 2 : Int)) (hM.s 2) (kk := ?_)
          refine r_iload_n dX9_addHouse_81 rfl ?_
          refine r_iast dX9_addHouse_82 (hM.cc 6 11 30) rfl (k := ?_)
          refine gm (ap_st (v := d) hP) (fun M1 hP => ?_)
          have hM := hP.1.1
          refine r_aload_n dX9_addHouse_83 rfl ?_
          refine r_getR qX9_28 dX9_addHouse_84 hM.o (hM.r 7) (kk := ?_)
          refine r_aload_n dX9_addHouse_87 rfl ?_
          refine r_getI qX9_91 dX9_addHouse_88 hM.o (x := iz (σ.1 2 : Int)) (hM.s 2) (kk := ?_)
          refine r_iload_n dX9_addHouse_91 rfl ?_
          refine r_iast dX9_addHouse_92 (hM.cc 7 11 30) rfl (k := ?_)
          refine gm (ap_st (v := o) hP) (fun M1 hP => ?_)
          have hM := hP.1.1
          refine r_aload_n dX9_addHouse_93 rfl ?_
          refine r_dup dX9_addHouse_94 (k := ?_)
          refine r_getI qX9_91 dX9_addHouse_95 hM.o (x := iz (σ.1 2 : Int)) (hM.s 2) (kk := ?_)
          refine r_iconst dX9_addHouse_98 ?_
          refine r_iadd dX9_addHouse_99 ?_
          refine r_putI qX9_91 dX9_addHouse_100 hM.o (kk := ?_)
          refine gm (ap_grow hP 2) (fun M1 hP => ?_)
          have hM := hP.1
          refine r_aload_n dX9_addHouse_103 rfl ?_
          refine r_getI qX9_91 dX9_addHouse_104 hM.o (x := iz ((σ.1 2 + 1 : Nat) : Int)) (hM.s 2) (kk := ?_)
          refine r_iconst dX9_addHouse_107 ?_
          refine r_isub dX9_addHouse_108 ?_
          exact r_iret dX9_addHouse_109 (mr_of hP (by unfold opAddHouse; rw [if_neg (by omega), if_neg (by simp only [Int.toNat_natCast]; omega), if_neg (by omega)]; rfl) (fun _ => by congr 1; omega))
        · refine r_aload_n dX9_addHouse_57 rfl ?_
          refine r_iconst dX9_addHouse_58 ?_
          refine r_callV (mi := iX9_addHouse) vX9_100 dX9_addHouse_59 hM.o (m_fails hM.o 3) (hm := ⟨by omega, by omega⟩) (k := kP ?_) (kx := r_nox)
          exact r_iret dX9_addHouse_62 (mr_of (mpf hP 3) (by unfold opAddHouse; rw [if_neg (by omega), if_neg (by simp only [Int.toNat_natCast]; omega), if_pos (by omega)]) (fun h => absurd h (by decide)))
      · refine r_aload_n dX9_addHouse_42 rfl ?_
        refine r_iconst dX9_addHouse_43 ?_
        refine r_callV (mi := iX9_addHouse) vX9_100 dX9_addHouse_44 hM.o (m_fails hM.o 2) (hm := ⟨by omega, by omega⟩) (k := kP ?_) (kx := r_nox)
        exact r_iret dX9_addHouse_47 (mr_of (mpf hP 2) (by unfold opAddHouse; rw [if_neg (by omega), if_pos (by simp only [Int.toNat_natCast]; omega)]) (fun h => absurd h (by decide)))
  · refine r_aload_n dX9_addHouse_13 rfl ?_
    refine r_iconst dX9_addHouse_14 ?_
    refine r_callV (mi := iX9_addHouse) vX9_100 dX9_addHouse_15 hM.o (m_fails hM.o 1) (hm := ⟨by omega, by omega⟩) (k := kP ?_) (kx := r_nox)
    exact r_iret dX9_addHouse_18 (mr_of (mpf hP 1) (by unfold opAddHouse; repeat (first | rw [if_pos (by omega)] | rw [if_neg (by omega)])) (fun h => absurd h (by decide)))
theorem m_addRound (hM : RM M Y σ) (hO : Ok σ T) (l : Int) (ha : inR l) : Ht G iX9_addRound yX9_addRound 10 [.ref (Y 0), .int (iz l)] M (MR Y M (opAddRound σ l)) nX 0 0 := by
  obtain ⟨⟨p1, p2, p3, p4, p5, -⟩, hS, -⟩ := hO
  refine ht_intro (by decide +kernel) rfl rfl rfl (Nat.le_of_ble_eq_true rfl) ?_
  refine r_aload_n dX9_addRound_0 rfl ?_
  refine r_iconst dX9_addRound_1 ?_
  refine r_putI qX9_81 dX9_addRound_2 hM.o (kk := ?_)
  refine gm (P := MP Y M σ 0) (mp0 hM) (fun M1 hP => ?_)
  have hM := hP.1
  refine r_iload_n dX9_addRound_5 rfl ?_
  refine r_iconst dX9_addRound_6 ?_
  refine r_sipush dX9_addRound_7 (k := ?_)
  refine r_callS (mi := iX9_addRound) vX9_87 dX9_addRound_10 (m_isBetween l 1 999 ha (by omega) (by omega)) (hm := ⟨by omega, by omega⟩) (k := kP ?_) (kx := r_nox)
  refine r_dif_ne (tgt := 22) dX9_addRound_13 (by decide) (kt := fun z13 => ?_) (kf := fun z13 => ?_)
  · refine r_aload_n dX9_addRound_22 rfl ?_
    refine r_getI qX9_94 dX9_addRound_23 hM.o (x := iz (σ.1 3 : Int)) (hM.s 3) (kk := ?_)
    refine r_iconst dX9_addRound_26 ?_
    refine r_icmp_ne (tgt := 36) dX9_addRound_27 (by decide) (kt := fun z27 => ?_) (kf := fun z27 => ?_)
    · obtain ⟨l, rfl⟩ := nat_of (a := l) (by omega)
      have hP := ap_0 (σ.1 3) hP
      refine r_aload_n dX9_addRound_36 rfl ?_
      refine r_getR qX9_34 dX9_addRound_37 hM.o (hM.r 9) (kk := ?_)
      refine r_aload_n dX9_addRound_40 rfl ?_
      refine r_getI qX9_94 dX9_addRound_41 hM.o (x := iz (σ.1 3 : Int)) (hM.s 3) (kk := ?_)
      refine r_iload_n dX9_addRound_44 rfl ?_
      refine r_iast dX9_addRound_45 (hM.cc 9 11 4) rfl (k := ?_)
      refine gm (ap_st (v := l) hP) (fun M1 hP => ?_)
      have hM := hP.1.1
      refine r_aload_n dX9_addRound_46 rfl ?_
      refine r_dup dX9_addRound_47 (k := ?_)
      refine r_getI qX9_94 dX9_addRound_48 hM.o (x := iz (σ.1 3 : Int)) (hM.s 3) (kk := ?_)
      refine r_iconst dX9_addRound_51 ?_
      refine r_iadd dX9_addRound_52 ?_
      refine r_putI qX9_94 dX9_addRound_53 hM.o (kk := ?_)
      refine gm (ap_grow hP 3) (fun M1 hP => ?_)
      have hM := hP.1
      refine r_aload_n dX9_addRound_56 rfl ?_
      refine r_getI qX9_94 dX9_addRound_57 hM.o (x := iz ((σ.1 3 + 1 : Nat) : Int)) (hM.s 3) (kk := ?_)
      refine r_iconst dX9_addRound_60 ?_
      refine r_isub dX9_addRound_61 ?_
      exact r_iret dX9_addRound_62 (mr_of hP (by unfold opAddRound; repeat (first | rw [if_pos (by omega)] | rw [if_neg (by omega)]); try rfl) (fun _ => by congr 1; omega))
    · refine r_aload_n dX9_addRound_30 rfl ?_
      refine r_iconst dX9_addRound_31 ?_
      refine r_callV (mi := iX9_addRound) vX9_100 dX9_addRound_32 hM.o (m_fails hM.o 2) (hm := ⟨by omega, by omega⟩) (k := kP ?_) (kx := r_nox)
      exact r_iret dX9_addRound_35 (mr_of (mpf hP 2) (by unfold opAddRound; repeat (first | rw [if_pos (by omega)] | rw [if_neg (by omega)])) (fun h => absurd h (by decide)))
  · refine r_aload_n dX9_addRound_16 rfl ?_
    refine r_iconst dX9_addRound_17 ?_
    refine r_callV (mi := iX9_addRound) vX9_100 dX9_addRound_18 hM.o (m_fails hM.o 1) (hm := ⟨by omega, by omega⟩) (k := kP ?_) (kx := r_nox)
    exact r_iret dX9_addRound_21 (mr_of (mpf hP 1) (by unfold opAddRound; repeat (first | rw [if_pos (by omega)] | rw [if_neg (by omega)])) (fun h => absurd h (by decide)))
theorem m_assign (hM : RM M Y σ) (hO : Ok σ T) (s r : Int) (ha : inR s) (hb : inR r) : Ht G iX9_assign yX9_assign 10 [.ref (Y 0), .int (iz s), .int (iz r)] M (MR Y M (opAssign σ s r)) nX 0 0 := by
  obtain ⟨⟨p1, p2, p3, p4, p5, -⟩, hS, -⟩ := hO
  refine ht_intro (by decide +kernel) rfl rfl rfl (Nat.le_of_ble_eq_true rfl) ?_
  refine r_aload_n dX9_assign_0 rfl ?_
  refine r_iconst dX9_assign_1 ?_
  refine r_putI qX9_81 dX9_assign_2 hM.o (kk := ?_)
  refine gm (P := MP Y M σ 0) (mp0 hM) (fun M1 hP => ?_)
  have hM := hP.1
  refine r_aload_n dX9_assign_5 rfl ?_
  refine r_iload_n dX9_assign_6 rfl ?_
  refine r_callV (mi := iX9_assign) vX9_108 dX9_assign_7 hM.o (m_isStreet hM (by omega) s ha) (hm := ⟨by omega, by omega⟩) (k := kP ?_) (kx := r_nox)
  refine r_dif_eq (tgt := 21) dX9_assign_10 (by decide) (kt := fun z10 => ?_) (kf := fun z10 => ?_)
  · refine r_aload_n dX9_assign_21 rfl ?_
    refine r_iconst dX9_assign_22 ?_
    refine r_callV (mi := iX9_assign) vX9_100 dX9_assign_23 hM.o (m_fails hM.o 1) (hm := ⟨by omega, by omega⟩) (k := kP ?_) (kx := r_nox)
    exact r_iret dX9_assign_26 (mr_of (mpf hP 1) (by unfold opAssign; repeat (first | rw [if_pos (by omega)] | rw [if_neg (by omega)])) (fun h => absurd h (by decide)))
  · refine r_aload_n dX9_assign_13 rfl ?_
    refine r_iload_n dX9_assign_14 rfl ?_
    refine r_callV (mi := iX9_assign) vX9_111 dX9_assign_15 hM.o (m_isRound hM (by omega) r hb) (hm := ⟨by omega, by omega⟩) (k := kP ?_) (kx := r_nox)
    refine r_dif_ne (tgt := 27) dX9_assign_18 (by decide) (kt := fun z18 => ?_) (kf := fun z18 => ?_)
    · obtain ⟨s, rfl⟩ := nat_of (a := s) (by omega)
      obtain ⟨r, rfl⟩ := nat_of (a := r) (by omega)
      have hs : s < σ.1 1 := by omega
      refine r_aload_n dX9_assign_27 rfl ?_
      refine r_getR qX9_19 dX9_assign_28 hM.o (hM.r 4) (kk := ?_)
      refine r_iload_n dX9_assign_31 rfl ?_
      refine r_iald dX9_assign_32 (hM.cc 4 11 16) rfl (hM.v4 _ (hs)) (k := ?_)
      refine r_istore_n dX9_assign_33 (k := ?_)
      refine r_aload_n dX9_assign_34 rfl ?_
      refine r_getR qX9_19 dX9_assign_35 hM.o (hM.r 4) (kk := ?_)
      refine r_iload_n dX9_assign_38 rfl ?_
      refine r_iload_n dX9_assign_39 rfl ?_
      refine r_iast dX9_assign_40 (hM.cc 4 11 16) rfl (k := ?_)
      refine gm (P := MP Y M (stA σ 4 s (r + 1)) 0) (ap_st (v := r + 1) (ap_0 s hP) (by show iz _ = iz _; congr 1; omega)).1 (fun M1 hP => ?_)
      refine r_iload_n dX9_assign_41 rfl ?_
      exact r_iret dX9_assign_42 (mr_of hP (by unfold opAssign; repeat (first | rw [if_pos (by omega)] | rw [if_neg (by omega)]); try rfl) (fun _ => rfl))
    · refine r_aload_n dX9_assign_21 rfl ?_
      refine r_iconst dX9_assign_22 ?_
      refine r_callV (mi := iX9_assign) vX9_100 dX9_assign_23 hM.o (m_fails hM.o 1) (hm := ⟨by omega, by omega⟩) (k := kP ?_) (kx := r_nox)
      exact r_iret dX9_assign_26 (mr_of (mpf hP 1) (by unfold opAssign; repeat (first | rw [if_pos (by omega)] | rw [if_neg (by omega)])) (fun h => absurd h (by decide)))
theorem m_setBag (hM : RM M Y σ) (w : Int) (ha : inR w) : Ht G iX9_setBag yX9_setBag 10 [.ref (Y 0), .int (iz w)] M (MR Y M (opSetBag σ w)) nX 0 0 := by
  refine ht_intro (by decide +kernel) rfl rfl rfl (Nat.le_of_ble_eq_true rfl) ?_
  refine r_aload_n dX9_setBag_0 rfl ?_
  refine r_iconst dX9_setBag_1 ?_
  refine r_putI qX9_81 dX9_setBag_2 hM.o (kk := ?_)
  refine gm (P := MP Y M σ 0) (mp0 hM) (fun M1 hP => ?_)
  have hM := hP.1
  refine r_iload_n dX9_setBag_5 rfl ?_
  refine r_iconst dX9_setBag_6 ?_
  refine r_bipush dX9_setBag_7 (k := ?_)
  refine r_callS (mi := iX9_setBag) vX9_87 dX9_setBag_9 (m_isBetween w 0 99 ha (by omega) (by omega)) (hm := ⟨by omega, by omega⟩) (k := kP ?_) (kx := r_nox)
  refine r_dif_ne (tgt := 21) dX9_setBag_12 (by decide) (kt := fun z12 => ?_) (kf := fun z12 => ?_)
  · obtain ⟨w, rfl⟩ := nat_of (a := w) (by omega)
    refine r_aload_n dX9_setBag_21 rfl ?_
    refine r_getI qX9_57 dX9_setBag_22 hM.o (x := iz (σ.1 5 : Int)) (hM.s 5) (kk := ?_)
    refine r_istore_n dX9_setBag_25 (k := ?_)
    refine r_aload_n dX9_setBag_26 rfl ?_
    refine r_iload_n dX9_setBag_27 rfl ?_
    refine r_putI qX9_57 dX9_setBag_28 hM.o (kk := ?_)
    refine gm (mp_s hP 5 w (by omega)) (fun M1 hP => ?_)
    refine r_iload_n dX9_setBag_31 rfl ?_
    exact r_iret dX9_setBag_32 (mr_of hP (by unfold opSetBag; repeat (first | rw [if_pos (by omega)] | rw [if_neg (by omega)]); try rfl) (fun _ => rfl))
  · refine r_aload_n dX9_setBag_15 rfl ?_
    refine r_iconst dX9_setBag_16 ?_
    refine r_callV (mi := iX9_setBag) vX9_100 dX9_setBag_17 hM.o (m_fails hM.o 1) (hm := ⟨by omega, by omega⟩) (k := kP ?_) (kx := r_nox)
    exact r_iret dX9_setBag_20 (mr_of (mpf hP 1) (by unfold opSetBag; repeat (first | rw [if_pos (by omega)] | rw [if_neg (by omega)])) (fun h => absurd h (by decide)))
theorem m_letters (hM : RM M Y σ) (hO : Ok σ T) (h c : Int) (ha : inR h) (hb : inR c) : Ht G iX9_letters yX9_letters 10 [.ref (Y 0), .int (iz h), .int (iz c)] M (MR Y M (opLetters σ h c)) nX 0 0 := by
  obtain ⟨⟨p1, p2, p3, p4, p5, -⟩, -, hH, -⟩ := id hO
  refine ht_intro (by decide +kernel) rfl rfl rfl (Nat.le_of_ble_eq_true rfl) ?_
  refine r_aload_n dX9_letters_0 rfl ?_
  refine r_iconst dX9_letters_1 ?_
  refine r_putI qX9_81 dX9_letters_2 hM.o (kk := ?_)
  refine gm (P := MP Y M σ 0) (mp0 hM) (fun M1 hP => ?_)
  have hM := hP.1
  refine r_aload_n dX9_letters_5 rfl ?_
  refine r_iload_n dX9_letters_6 rfl ?_
  refine r_callV (mi := iX9_letters) vX9_114 dX9_letters_7 hM.o (m_isHouse hM (by omega) h ha) (hm := ⟨by omega, by omega⟩) (k := kP ?_) (kx := r_nox)
  refine r_dif_ne (tgt := 19) dX9_letters_10 (by decide) (kt := fun z10 => ?_) (kf := fun z10 => ?_)
  · refine r_iload_n dX9_letters_19 rfl ?_
    refine r_iconst dX9_letters_20 ?_
    refine r_bipush dX9_letters_21 (k := ?_)
    refine r_callS (mi := iX9_letters) vX9_87 dX9_letters_23 (m_isBetween c 1 20 hb (by omega) (by omega)) (hm := ⟨by omega, by omega⟩) (k := kP ?_) (kx := r_nox)
    refine r_dif_ne (tgt := 35) dX9_letters_26 (by decide) (kt := fun z26 => ?_) (kf := fun z26 => ?_)
    · obtain ⟨h, rfl⟩ := nat_of (a := h) (by omega)
      obtain ⟨c, rfl⟩ := nat_of (a := c) (by omega)
      have hh : h < σ.1 2 := by omega
      obtain ⟨h1, h2, h3, h4⟩ := hH h hh
      refine r_aload_n dX9_letters_35 rfl ?_
      refine r_getR qX9_31 dX9_letters_36 hM.o (hM.r 8) (kk := ?_)
      refine r_iload_n dX9_letters_39 rfl ?_
      refine r_iald dX9_letters_40 (hM.cc 8 11 30) rfl (hM.v 8 _ (hO.h8 hh)) (k := ?_)
      refine r_iload_n dX9_letters_41 rfl ?_
      refine r_iadd dX9_letters_42 ?_
      refine r_bipush dX9_letters_43 (k := ?_)
      refine r_icmp_le (tgt := 54) dX9_letters_45 (by decide) (kt := fun z45 => ?_) (kf := fun z45 => ?_)
      · refine r_aload_n dX9_letters_54 rfl ?_
        refine r_getR qX9_31 dX9_letters_55 hM.o (hM.r 8) (kk := ?_)
        refine r_iload_n dX9_letters_58 rfl ?_
        refine r_dup2 dX9_letters_59 (k := ?_)
        refine r_iald dX9_letters_60 (hM.cc 8 11 30) rfl (hM.v 8 _ (hO.h8 hh)) (k := ?_)
        refine r_iload_n dX9_letters_61 rfl ?_
        refine r_iadd dX9_letters_62 ?_
        refine r_iast dX9_letters_63 (hM.cc 8 11 30) rfl (k := ?_)
        refine gm (ap_st (v := σ.2 8 h + c) (ap_0 h hP) (by rfl)) (fun M1 hP => ?_)
        have hM := hP.1.1
        refine r_aload_n dX9_letters_64 rfl ?_
        refine r_getR qX9_31 dX9_letters_65 hM.o (hM.r 8) (kk := ?_)
        refine r_iload_n dX9_letters_68 rfl ?_
        refine r_iald dX9_letters_69 (hM.cc 8 11 30) rfl (v := iz ((σ.2 8 h : Int) + c)) (hP.2 8 List.mem_cons_self |>.trans (by rw [show vz 8 _ = iz _ from rfl, stA_at]; rfl)) (k := ?_)
        exact r_iret dX9_letters_70 (mr_of hP.1 (by unfold opLetters; rw [if_neg (by omega), if_neg (by omega), if_neg (by simp only [Int.toNat_natCast]; omega)]; rfl) (fun _ => rfl))
      · refine r_aload_n dX9_letters_48 rfl ?_
        refine r_iconst dX9_letters_49 ?_
        refine r_callV (mi := iX9_letters) vX9_100 dX9_letters_50 hM.o (m_fails hM.o 3) (hm := ⟨by omega, by omega⟩) (k := kP ?_) (kx := r_nox)
        exact r_iret dX9_letters_53 (mr_of (mpf hP 3) (by unfold opLetters; rw [if_neg (by omega), if_neg (by omega), if_pos (by simp only [Int.toNat_natCast]; omega)]) (fun h => absurd h (by decide)))
    · refine r_aload_n dX9_letters_29 rfl ?_
      refine r_iconst dX9_letters_30 ?_
      refine r_callV (mi := iX9_letters) vX9_100 dX9_letters_31 hM.o (m_fails hM.o 2) (hm := ⟨by omega, by omega⟩) (k := kP ?_) (kx := r_nox)
      exact r_iret dX9_letters_34 (mr_of (mpf hP 2) (by unfold opLetters; repeat (first | rw [if_pos (by omega)] | rw [if_neg (by omega)])) (fun h => absurd h (by decide)))
  · refine r_aload_n dX9_letters_13 rfl ?_
    refine r_iconst dX9_letters_14 ?_
    refine r_callV (mi := iX9_letters) vX9_100 dX9_letters_15 hM.o (m_fails hM.o 1) (hm := ⟨by omega, by omega⟩) (k := kP ?_) (kx := r_nox)
    exact r_iret dX9_letters_18 (mr_of (mpf hP 1) (by unfold opLetters; repeat (first | rw [if_pos (by omega)] | rw [if_neg (by omega)])) (fun h => absurd h (by decide)))
theorem m_parcel (hM : RM M Y σ) (hO : Ok σ T) (h w d : Int) (ha : inR h) (hb : inR w) (hl : inR d) : Ht G iX9_parcel yX9_parcel 10 [.ref (Y 0), .int (iz h), .int (iz w), .int (iz d)] M (MR Y M (opParcel σ h w d)) nX 0 0 := by
  obtain ⟨⟨p1, p2, p3, p4, p5, p6, -⟩, hS, -⟩ := hO
  refine ht_intro (by decide +kernel) rfl rfl rfl (Nat.le_of_ble_eq_true rfl) ?_
  refine r_aload_n dX9_parcel_0 rfl ?_
  refine r_iconst dX9_parcel_1 ?_
  refine r_putI qX9_81 dX9_parcel_2 hM.o (kk := ?_)
  refine gm (P := MP Y M σ 0) (mp0 hM) (fun M1 hP => ?_)
  have hM := hP.1
  refine r_aload_n dX9_parcel_5 rfl ?_
  refine r_iload_n dX9_parcel_6 rfl ?_
  refine r_callV (mi := iX9_parcel) vX9_114 dX9_parcel_7 hM.o (m_isHouse hM (by omega) h ha) (hm := ⟨by omega, by omega⟩) (k := kP ?_) (kx := r_nox)
  refine r_dif_ne (tgt := 19) dX9_parcel_10 (by decide) (kt := fun z10 => ?_) (kf := fun z10 => ?_)
  · refine r_iload_n dX9_parcel_19 rfl ?_
    refine r_iconst dX9_parcel_20 ?_
    refine r_bipush dX9_parcel_21 (k := ?_)
    refine r_callS (mi := iX9_parcel) vX9_87 dX9_parcel_23 (m_isBetween w 1 99 hb (by omega) (by omega)) (hm := ⟨by omega, by omega⟩) (k := kP ?_) (kx := r_nox)
    refine r_dif_eq (tgt := 40) dX9_parcel_26 (by decide) (kt := fun z26 => ?_) (kf := fun z26 => ?_)
    · refine r_aload_n dX9_parcel_40 rfl ?_
      refine r_iconst dX9_parcel_41 ?_
      refine r_callV (mi := iX9_parcel) vX9_100 dX9_parcel_42 hM.o (m_fails hM.o 2) (hm := ⟨by omega, by omega⟩) (k := kP ?_) (kx := r_nox)
      exact r_iret dX9_parcel_45 (mr_of (mpf hP 2) (by unfold opParcel; repeat (first | rw [if_pos (by omega)] | rw [if_neg (by omega)])) (fun h => absurd h (by decide)))
    · refine r_iload_n dX9_parcel_29 rfl ?_
      refine r_iconst dX9_parcel_30 ?_
      refine r_sipush dX9_parcel_31 (k := ?_)
      refine r_callS (mi := iX9_parcel) vX9_87 dX9_parcel_34 (m_isBetween d 1 999 hl (by omega) (by omega)) (hm := ⟨by omega, by omega⟩) (k := kP ?_) (kx := r_nox)
      refine r_dif_ne (tgt := 46) dX9_parcel_37 (by decide) (kt := fun z37 => ?_) (kf := fun z37 => ?_)
      · refine r_aload_n dX9_parcel_46 rfl ?_
        refine r_getI qX9_97 dX9_parcel_47 hM.o (x := iz (σ.1 4 : Int)) (hM.s 4) (kk := ?_)
        refine r_bipush dX9_parcel_50 (k := ?_)
        refine r_icmp_ne (tgt := 61) dX9_parcel_52 (by decide) (kt := fun z52 => ?_) (kf := fun z52 => ?_)
        · obtain ⟨h, rfl⟩ := nat_of (a := h) (by omega)
          obtain ⟨w, rfl⟩ := nat_of (a := w) (by omega)
          obtain ⟨d, rfl⟩ := nat_of (a := d) (by omega)
          have hP := ap_0 (σ.1 4) hP
          refine r_aload_n dX9_parcel_61 rfl ?_
          refine r_getR qX9_37 dX9_parcel_62 hM.o (hM.r 10) (kk := ?_)
          refine r_aload_n dX9_parcel_65 rfl ?_
          refine r_getI qX9_97 dX9_parcel_66 hM.o (x := iz (σ.1 4 : Int)) (hM.s 4) (kk := ?_)
          refine r_iload_n dX9_parcel_69 rfl ?_
          refine r_iast dX9_parcel_70 (hM.cc 10 11 20) rfl (k := ?_)
          refine gm (ap_st (v := h) hP) (fun M1 hP => ?_)
          have hM := hP.1.1
          refine r_aload_n dX9_parcel_71 rfl ?_
          refine r_getR qX9_40 dX9_parcel_72 hM.o (hM.r 11) (kk := ?_)
          refine r_aload_n dX9_parcel_75 rfl ?_
          refine r_getI qX9_97 dX9_parcel_76 hM.o (x := iz (σ.1 4 : Int)) (hM.s 4) (kk := ?_)
          refine r_iload_n dX9_parcel_79 rfl ?_
          refine r_iast dX9_parcel_80 (hM.cc 11 11 20) rfl (k := ?_)
          refine gm (ap_st (v := w) hP) (fun M1 hP => ?_)
          have hM := hP.1.1
          refine r_aload_n dX9_parcel_81 rfl ?_
          refine r_getR qX9_43 dX9_parcel_82 hM.o (hM.r 12) (kk := ?_)
          refine r_aload_n dX9_parcel_85 rfl ?_
          refine r_getI qX9_97 dX9_parcel_86 hM.o (x := iz (σ.1 4 : Int)) (hM.s 4) (kk := ?_)
          refine r_iload_n dX9_parcel_89 rfl ?_
          refine r_iast dX9_parcel_90 (hM.cc 12 11 20) rfl (k := ?_)
          refine gm (ap_st (v := d) hP) (fun M1 hP => ?_)
          have hM := hP.1.1
          refine r_aload_n dX9_parcel_91 rfl ?_
          refine r_getR qX9_50 dX9_parcel_92 hM.o (hM.r 14) (kk := ?_)
          refine r_aload_n dX9_parcel_95 rfl ?_
          refine r_getI qX9_97 dX9_parcel_96 hM.o (x := iz (σ.1 4 : Int)) (hM.s 4) (kk := ?_)
          refine r_iconst dX9_parcel_99 ?_
          refine r_zast (v := false) dX9_parcel_100 (hM.cc 14 12 20) rfl (k := ?_)
          refine gm (ap_st (v := 0) hP) (fun M1 hP => ?_)
          have hM := hP.1.1
          refine r_aload_n dX9_parcel_101 rfl ?_
          refine r_dup dX9_parcel_102 (k := ?_)
          refine r_getI qX9_97 dX9_parcel_103 hM.o (x := iz (σ.1 4 : Int)) (hM.s 4) (kk := ?_)
          refine r_iconst dX9_parcel_106 ?_
          refine r_iadd dX9_parcel_107 ?_
          refine r_putI qX9_97 dX9_parcel_108 hM.o (kk := ?_)
          refine gm (ap_grow hP 4) (fun M1 hP => ?_)
          have hM := hP.1
          refine r_aload_n dX9_parcel_111 rfl ?_
          refine r_getI qX9_97 dX9_parcel_112 hM.o (x := iz ((σ.1 4 + 1 : Nat) : Int)) (hM.s 4) (kk := ?_)
          refine r_iconst dX9_parcel_115 ?_
          refine r_isub dX9_parcel_116 ?_
          exact r_iret dX9_parcel_117 (mr_of hP (by unfold opParcel; repeat (first | rw [if_pos (by omega)] | rw [if_neg (by omega)]); try rfl) (fun _ => by congr 1; omega))
        · refine r_aload_n dX9_parcel_55 rfl ?_
          refine r_iconst dX9_parcel_56 ?_
          refine r_callV (mi := iX9_parcel) vX9_100 dX9_parcel_57 hM.o (m_fails hM.o 3) (hm := ⟨by omega, by omega⟩) (k := kP ?_) (kx := r_nox)
          exact r_iret dX9_parcel_60 (mr_of (mpf hP 3) (by unfold opParcel; repeat (first | rw [if_pos (by omega)] | rw [if_neg (by omega)])) (fun h => absurd h (by decide)))
      · refine r_aload_n dX9_parcel_40 rfl ?_
        refine r_iconst dX9_parcel_41 ?_
        refine r_callV (mi := iX9_parcel) vX9_100 dX9_parcel_42 hM.o (m_fails hM.o 2) (hm := ⟨by omega, by omega⟩) (k := kP ?_) (kx := r_nox)
        exact r_iret dX9_parcel_45 (mr_of (mpf hP 2) (by unfold opParcel; repeat (first | rw [if_pos (by omega)] | rw [if_neg (by omega)])) (fun h => absurd h (by decide)))
  · refine r_aload_n dX9_parcel_13 rfl ?_
    refine r_iconst dX9_parcel_14 ?_
    refine r_callV (mi := iX9_parcel) vX9_100 dX9_parcel_15 hM.o (m_fails hM.o 1) (hm := ⟨by omega, by omega⟩) (k := kP ?_) (kx := r_nox)
    exact r_iret dX9_parcel_18 (mr_of (mpf hP 1) (by unfold opParcel; repeat (first | rw [if_pos (by omega)] | rw [if_neg (by omega)])) (fun h => absurd h (by decide)))
theorem m_newDay (hM : RM M Y σ) (hO : Ok σ T) : Ht G iX9_newDay yX9_newDay 10 [.ref (Y 0)] M (MR Y M (opNewDay σ)) nX 0 0 := by
  obtain ⟨⟨p1, p2, p3, p4, p5, p6, p7, p8, p9, p10, p11, p12, p13, p14, p15⟩, hS, -⟩ := id hO
  have hc := cnt_le (post σ)
  refine ht_intro (by decide +kernel) rfl rfl rfl (Nat.le_of_ble_eq_true rfl) ?_
  have loop3 : ∀ (k i : Nat) (M1 : Mem), i + k = σ.1 2 → MP Y M (stF σ 8 (fun j => if j < i then 0 else σ.2 8 j)) 0 M1 → SWG G iX9_newDay (rmd 10 0 0) (QF G (MR Y M (opNewDay σ)) nX 0 0) 41 [(2, .int (iz (i : Int))), (1, .int (iz (cnt (post σ) (σ.1 2) : Int))), (0, .ref (Y 0))] [] M1 0 0 := by
    intro k
    induction k with
    | zero =>
      intro i M1 hi hP
      have hi2 : i = σ.1 2 := by omega
      subst hi2
      have e : (fun j => if j < σ.1 2 then 0 else σ.2 8 j) = fun _ => 0 := funext fun j => by
        by_cases e : j < σ.1 2
        · exact if_pos e
        · rw [if_neg e]; exact p15 j (by omega)
      rw [e] at hP
      have hM := hP.1
      refine r_iload_n dX9_newDay_41 rfl ?_
      refine r_aload_n dX9_newDay_42 rfl ?_
      refine r_getI qX9_91 dX9_newDay_43 hM.o (x := iz (σ.1 2 : Int)) (hM.s 2) (kk := ?_)
      refine r_icmp_ge (tgt := 62) dX9_newDay_46 (by decide) (kt := fun z46 => ?_) (kf := fun z46 => (by exfalso; first | omega | simp_all))
      refine r_aload_n dX9_newDay_62 rfl ?_
      refine r_iconst dX9_newDay_63 ?_
      refine r_putI qX9_97 dX9_newDay_64 hM.o (kk := ?_)
      refine gm (mp_s hP 4 0 (by omega)) (fun M1 hP => ?_)
      have hM := hP.1
      refine r_aload_n dX9_newDay_67 rfl ?_
      refine r_iconst dX9_newDay_68 ?_
      refine r_putI qX9_126 dX9_newDay_69 hM.o (kk := ?_)
      refine gm (mp_s hP 6 0 (by omega)) (fun M1 hP => ?_)
      refine r_iload_n dX9_newDay_72 rfl ?_
      exact r_iret dX9_newDay_73 (mr_of hP rfl (fun _ => rfl))
    | succ k ih =>
      intro i M1 hi hP
      have hM := hP.1
      refine r_iload_n dX9_newDay_41 rfl ?_
      refine r_aload_n dX9_newDay_42 rfl ?_
      refine r_getI qX9_91 dX9_newDay_43 hM.o (x := iz (σ.1 2 : Int)) (hM.s 2) (kk := ?_)
      refine r_icmp_ge (tgt := 62) dX9_newDay_46 (by decide) (kt := fun z46 => (by exfalso; first | omega | simp_all)) (kf := fun z46 => ?_)
      refine r_aload_n dX9_newDay_49 rfl ?_
      refine r_getR qX9_31 dX9_newDay_50 hM.o (hM.r 8) (kk := ?_)
      refine r_iload_n dX9_newDay_53 rfl ?_
      refine r_iconst dX9_newDay_54 ?_
      refine r_iast dX9_newDay_55 (hM.cc 8 11 30) rfl (k := ?_)
      refine r_iinc dX9_newDay_56 rfl (k := ?_)
      refine r_goto (tgt := 41) dX9_newDay_59 (by decide) ?_
      refine r_loc' (ih (i + 1) _ (by omega) ?_) ⟨rfl, rfl, rfl, trivial⟩
      rw [← stF_stF σ 8 (fun j => if j < i then 0 else σ.2 8 j)]
      refine mp_a hP 8 (fun j hj => ?_)
      have h0 := hM.v 8 j hj
      by_cases e : j = i
      · subst e; rw [if_pos (by omega)]; simp only [upd, if_pos]; rfl
      · simp only [upd, if_neg e]
        rw [h0]
        show iz _ = iz _
        congr 2
        rw [stF_at]
        show (if j < i then 0 else σ.2 8 j) = if j < i + 1 then 0 else σ.2 8 j
        by_cases e2 : j < i
        · rw [if_pos e2, if_pos (by omega)]
        · rw [if_neg e2, if_neg (by omega)]
  have loop : ∀ (k i : Nat) (M1 : Mem), i + k = σ.1 2 → MP Y M σ 0 M1 → SWG G iX9_newDay (rmd 10 0 0) (QF G (MR Y M (opNewDay σ)) nX 0 0) 9 [(2, .int (iz (i : Int))), (1, .int (iz (cnt (post σ) i : Int))), (0, .ref (Y 0))] [] M1 0 0 := by
    intro k
    induction k with
    | zero =>
      intro i M1 hi hP
      have hi2 : i = σ.1 2 := by omega
      subst hi2
      have hM := hP.1
      refine r_iload_n dX9_newDay_9 rfl ?_
      refine r_aload_n dX9_newDay_10 rfl ?_
      refine r_getI qX9_91 dX9_newDay_11 hM.o (x := iz (σ.1 2 : Int)) (hM.s 2) (kk := ?_)
      refine r_icmp_ge (tgt := 39) dX9_newDay_14 (by decide) (kt := fun z14 => ?_) (kf := fun z14 => (by exfalso; first | omega | simp_all))
      refine r_iconst dX9_newDay_39 ?_
      refine r_istore_n dX9_newDay_40 (k := ?_)
      refine r_loc' (loop3 (σ.1 2) 0 _ (by omega) ?_) ⟨rfl, rfl, rfl, trivial⟩
      have e : stF σ 8 (fun j => if j < 0 then 0 else σ.2 8 j) = σ := Prod.ext rfl (funext fun k => by
        by_cases e : k = 8
        · subst e; rw [stF_at]; exact funext fun j => if_neg (by omega)
        · exact up_n _ _ e)
      rw [e]; exact hP
    | succ k ih =>
      intro i M1 hi hP
      have hM := hP.1
      refine r_iload_n dX9_newDay_9 rfl ?_
      refine r_aload_n dX9_newDay_10 rfl ?_
      refine r_getI qX9_91 dX9_newDay_11 hM.o (x := iz (σ.1 2 : Int)) (hM.s 2) (kk := ?_)
      refine r_icmp_ge (tgt := 39) dX9_newDay_14 (by decide) (kt := fun z14 => (by exfalso; first | omega | simp_all)) (kf := fun z14 => ?_)
      refine r_iload_n dX9_newDay_17 rfl ?_
      refine r_aload_n dX9_newDay_18 rfl ?_
      refine r_iload_n dX9_newDay_19 rfl ?_
      refine r_callV (mi := iX9_newDay) vX9_123 dX9_newDay_20 hM.o (m_isDueNow hM hO i (by omega)) (hm := ⟨by omega, by omega⟩) (k := kP ?_) (kx := r_nox)
      refine r_bif_eq (tgt := 30) dX9_newDay_23 (by decide) (kt := fun z23 => ?_) (kf := fun z23 => ?_)
      · refine r_iconst dX9_newDay_30 ?_
        refine r_iadd dX9_newDay_31 ?_
        refine r_istore_n dX9_newDay_32 (k := ?_)
        refine r_iinc dX9_newDay_33 rfl (k := ?_)
        refine r_goto (tgt := 9) dX9_newDay_36 (by decide) ?_
        refine r_loc' (ih (i + 1) _ (by omega) hP) ⟨rfl, ?_, rfl, trivial⟩
        first
          | exact lkI (cnt_T (by assumption)).symm
          | exact lkI (cnt_F (by assumption)).symm
      · refine r_iconst dX9_newDay_26 ?_
        refine r_goto (tgt := 31) dX9_newDay_27 (by decide) ?_
        refine r_iadd dX9_newDay_31 ?_
        refine r_istore_n dX9_newDay_32 (k := ?_)
        refine r_iinc dX9_newDay_33 rfl (k := ?_)
        refine r_goto (tgt := 9) dX9_newDay_36 (by decide) ?_
        refine r_loc' (ih (i + 1) _ (by omega) hP) ⟨rfl, ?_, rfl, trivial⟩
        first
          | exact lkI (cnt_T (by assumption)).symm
          | exact lkI (cnt_F (by assumption)).symm
  refine r_aload_n dX9_newDay_0 rfl ?_
  refine r_iconst dX9_newDay_1 ?_
  refine r_putI qX9_81 dX9_newDay_2 hM.o (kk := ?_)
  refine gm (P := MP Y M σ 0) (mp0 hM) (fun M1 hP => ?_)
  have hM := hP.1
  refine r_iconst dX9_newDay_5 ?_
  refine r_istore_n dX9_newDay_6 (k := ?_)
  refine r_iconst dX9_newDay_7 ?_
  refine r_istore_n dX9_newDay_8 (k := ?_)
  exact r_loc' (loop (σ.1 2) 0 _ (by omega) hP) ⟨rfl, rfl, rfl, trivial⟩
end MD2
end
section
/-! The reference: what it tells of houses and rounds. -/
section MD3A
variable {G : GC} {mi : MI} {R : Room} {Qf : List Frame → Array Value → State → State → Prop} {pc : Nat} {L : List (Nat × Value)} {st : List Value} {M : Mem} {kc ks : Nat}
theorem bz_i1 : ∀ b, (bz b = iz 1) = (b = true) := by intro b; cases b <;> decide +kernel
theorem r_b1_ne {b : Bool} {off : Int} {tgt : Nat} (d : decode mi.2.1 pc = .ok (.if_icmp .ne off, 3)) (ht : (pc : Int) + off = (tgt : Int)) (kt : b = false → SWG G mi R Qf tgt L st M kc ks) (kf : b = true → SWG G mi R Qf (pc + 3) L st M kc ks) : SWG G mi R Qf pc L (.int (iz 1) :: .int (bz b) :: st) M kc ks := by
  cases b with
  | false => exact r_icmp_ne (a := 0) (b := 1) d ht (kt := fun _ => kt rfl) (kf := fun h => absurd h (by decide))
  | true => exact r_icmp_ne (a := 1) (b := 1) d ht (kt := fun h => absurd rfl h) (kf := fun _ => kf rfl)
theorem r_b1_eq {b : Bool} {off : Int} {tgt : Nat} (d : decode mi.2.1 pc = .ok (.if_icmp .eq off, 3)) (ht : (pc : Int) + off = (tgt : Int)) (kt : b = true → SWG G mi R Qf tgt L st M kc ks) (kf : b = false → SWG G mi R Qf (pc + 3) L st M kc ks) : SWG G mi R Qf pc L (.int (iz 1) :: .int (bz b) :: st) M kc ks := by
  cases b with
  | false => exact r_icmp_eq (a := 0) (b := 1) d ht (kt := fun h => absurd h (by decide)) (kf := fun _ => kf rfl)
  | true => exact r_icmp_eq (a := 1) (b := 1) d ht (kt := fun _ => kt rfl) (kf := fun h => absurd rfl h)
theorem bt_sh0 : ∀ g : Nat, g < 256 → ∀ r : Nat, r < 8 → (iz (g : Int) >>> (iz (r : Int) &&& 31)) &&& iz 1 = bz (g.testBit r) := by decide +kernel
theorem bt_sh {g r : Nat} {x : Int} (hx : x = r) (hg : g < 256) (hr : r < 8) : (iz (g : Int) >>> (iz x &&& 31)) &&& iz 1 = bz (g.testBit r) := by subst hx; exact bt_sh0 g hg r hr
theorem sl_0 : ∀ r : Nat, r < 16 → iz 1 <<< (iz (r : Int) &&& 31) = iz ((2 ^ r : Nat) : Int) := by decide +kernel
theorem sl_1 {r : Nat} {x : Int} (hx : x = r) (hr : r < 16) : iz 1 <<< (iz x &&& 31) = iz ((2 ^ r : Nat) : Int) := by subst hx; exact sl_0 r hr
theorem iz_or (a b : Nat) : iz (a : Int) ||| iz (b : Int) = iz ((a ||| b : Nat) : Int) := by
  apply Int32.toBitVec_inj.mp
  simp only [iz, Int32.toBitVec_or, Int32.toBitVec_ofInt]
  show BitVec.ofNat 32 a ||| BitVec.ofNat 32 b = BitVec.ofNat 32 (a ||| b)
  exact BitVec.ofNat_or.symm
end MD3A
section MD3
variable {G : GC} {M : Mem} {Y : Nat → Nat} {σ : St} {T : Nat}
theorem two_lt {r : Nat} (h : r < 4) : 2 ^ r < 16 := Nat.pow_lt_pow_right (by omega) h
theorem m_places (hM : RM M Y σ) : Ht G iX9_places yX9_places 10 [.ref (Y 0)] M (MR Y M (σ, 0, σ.1 0)) nX 0 0 := by
  refine ht_intro (by decide +kernel) rfl rfl rfl (Nat.le_of_ble_eq_true rfl) ?_
  refine r_aload_n dX9_places_0 rfl ?_
  refine r_iconst dX9_places_1 ?_
  refine r_putI qX9_81 dX9_places_2 hM.o (kk := ?_)
  refine gm (P := MP Y M σ 0) (mp0 hM) (fun M1 hP => ?_)
  have hM := hP.1
  refine r_aload_n dX9_places_5 rfl ?_
  refine r_getI qX9_53 dX9_places_6 hM.o (x := iz (σ.1 0 : Int)) (hM.s 0) (kk := ?_)
  exact r_iret dX9_places_9 (mr_of hP rfl (fun _ => rfl))
theorem m_streets (hM : RM M Y σ) : Ht G iX9_streets yX9_streets 10 [.ref (Y 0)] M (MR Y M (σ, 0, σ.1 1)) nX 0 0 := by
  refine ht_intro (by decide +kernel) rfl rfl rfl (Nat.le_of_ble_eq_true rfl) ?_
  refine r_aload_n dX9_streets_0 rfl ?_
  refine r_iconst dX9_streets_1 ?_
  refine r_putI qX9_81 dX9_streets_2 hM.o (kk := ?_)
  refine gm (P := MP Y M σ 0) (mp0 hM) (fun M1 hP => ?_)
  have hM := hP.1
  refine r_aload_n dX9_streets_5 rfl ?_
  refine r_getI qX9_84 dX9_streets_6 hM.o (x := iz (σ.1 1 : Int)) (hM.s 1) (kk := ?_)
  exact r_iret dX9_streets_9 (mr_of hP rfl (fun _ => rfl))
theorem m_houses (hM : RM M Y σ) : Ht G iX9_houses yX9_houses 10 [.ref (Y 0)] M (MR Y M (σ, 0, σ.1 2)) nX 0 0 := by
  refine ht_intro (by decide +kernel) rfl rfl rfl (Nat.le_of_ble_eq_true rfl) ?_
  refine r_aload_n dX9_houses_0 rfl ?_
  refine r_iconst dX9_houses_1 ?_
  refine r_putI qX9_81 dX9_houses_2 hM.o (kk := ?_)
  refine gm (P := MP Y M σ 0) (mp0 hM) (fun M1 hP => ?_)
  have hM := hP.1
  refine r_aload_n dX9_houses_5 rfl ?_
  refine r_getI qX9_91 dX9_houses_6 hM.o (x := iz (σ.1 2 : Int)) (hM.s 2) (kk := ?_)
  exact r_iret dX9_houses_9 (mr_of hP rfl (fun _ => rfl))
theorem m_vanClock (hM : RM M Y σ) : Ht G iX9_vanClock yX9_vanClock 10 [.ref (Y 0)] M (MR Y M (σ, 0, σ.1 6)) nX 0 0 := by
  refine ht_intro (by decide +kernel) rfl rfl rfl (Nat.le_of_ble_eq_true rfl) ?_
  refine r_aload_n dX9_vanClock_0 rfl ?_
  refine r_iconst dX9_vanClock_1 ?_
  refine r_putI qX9_81 dX9_vanClock_2 hM.o (kk := ?_)
  refine gm (P := MP Y M σ 0) (mp0 hM) (fun M1 hP => ?_)
  have hM := hP.1
  refine r_aload_n dX9_vanClock_5 rfl ?_
  refine r_getI qX9_126 dX9_vanClock_6 hM.o (x := iz (σ.1 6 : Int)) (hM.s 6) (kk := ?_)
  exact r_iret dX9_vanClock_9 (mr_of hP rfl (fun _ => rfl))
theorem m_late (hM : RM M Y σ) : Ht G iX9_late yX9_late 10 [.ref (Y 0)] M (MR Y M (σ, 0, σ.1 7)) nX 0 0 := by
  refine ht_intro (by decide +kernel) rfl rfl rfl (Nat.le_of_ble_eq_true rfl) ?_
  refine r_aload_n dX9_late_0 rfl ?_
  refine r_iconst dX9_late_1 ?_
  refine r_putI qX9_81 dX9_late_2 hM.o (kk := ?_)
  refine gm (P := MP Y M σ 0) (mp0 hM) (fun M1 hP => ?_)
  have hM := hP.1
  refine r_aload_n dX9_late_5 rfl ?_
  refine r_getI qX9_243 dX9_late_6 hM.o (x := iz (σ.1 7 : Int)) (hM.s 7) (kk := ?_)
  exact r_iret dX9_late_9 (mr_of hP rfl (fun _ => rfl))
theorem m_walked (hM : RM M Y σ) : Ht G iX9_walked yX9_walked 10 [.ref (Y 0)] M (rJ fun r M' => MP Y M σ 0 M' ∧ r = lN (σ.1 9)) nX 0 0 := by
  refine ht_intro (by decide +kernel) rfl rfl rfl (Nat.le_of_ble_eq_true rfl) ?_
  refine r_aload_n dX9_walked_0 rfl ?_
  refine r_iconst dX9_walked_1 ?_
  refine r_putI qX9_81 dX9_walked_2 hM.o (kk := ?_)
  refine gm (P := MP Y M σ 0) (mp0 hM) (fun M1 hP => ?_)
  have hM := hP.1
  refine r_aload_n dX9_walked_5 rfl ?_
  refine r_getJ qX9_214 dX9_walked_6 hM.o hM.j (kk := ?_)
  exact r_lret dX9_walked_9 (⟨_, rfl, hP, rfl⟩)
theorem m_roundOf (hM : RM M Y σ) (hO : Ok σ T) (s : Int) (ha : inR s) : Ht G iX9_roundOf yX9_roundOf 10 [.ref (Y 0), .int (iz s)] M (MR Y M (opRoundOf σ s)) nX 0 0 := by
  obtain ⟨⟨p1, p2, p3, p4, p5, -⟩, hS, -⟩ := hO
  refine ht_intro (by decide +kernel) rfl rfl rfl (Nat.le_of_ble_eq_true rfl) ?_
  refine r_aload_n dX9_roundOf_0 rfl ?_
  refine r_iconst dX9_roundOf_1 ?_
  refine r_putI qX9_81 dX9_roundOf_2 hM.o (kk := ?_)
  refine gm (P := MP Y M σ 0) (mp0 hM) (fun M1 hP => ?_)
  have hM := hP.1
  refine r_aload_n dX9_roundOf_5 rfl ?_
  refine r_iload_n dX9_roundOf_6 rfl ?_
  refine r_callV (mi := iX9_roundOf) vX9_108 dX9_roundOf_7 hM.o (m_isStreet hM (by omega) s ha) (hm := ⟨by omega, by omega⟩) (k := kP ?_) (kx := r_nox)
  refine r_dif_eq (tgt := 22) dX9_roundOf_10 (by decide) (kt := fun z10 => ?_) (kf := fun z10 => ?_)
  · refine r_aload_n dX9_roundOf_22 rfl ?_
    refine r_iconst dX9_roundOf_23 ?_
    refine r_callV (mi := iX9_roundOf) vX9_100 dX9_roundOf_24 hM.o (m_fails hM.o 1) (hm := ⟨by omega, by omega⟩) (k := kP ?_) (kx := r_nox)
    first
     | exact r_iret dX9_roundOf_27 (mr_of hP (by unfold opRoundOf; repeat (first | rw [if_pos (by omega)] | rw [if_neg (by omega)]); try rfl) (fun _ => rfl))
     | exact r_iret dX9_roundOf_27 (mr_of (mpf hP 1) (by unfold opRoundOf; repeat (first | rw [if_pos (by omega)] | rw [if_neg (by omega)])) (fun h => absurd h (by decide)))
  · obtain ⟨s, rfl⟩ := nat_of (a := s) (by omega)
    have hs : s < σ.1 1 := by omega
    refine r_aload_n dX9_roundOf_13 rfl ?_
    refine r_getR qX9_19 dX9_roundOf_14 hM.o (hM.r 4) (kk := ?_)
    refine r_iload_n dX9_roundOf_17 rfl ?_
    refine r_iald dX9_roundOf_18 (hM.cc 4 11 16) rfl (hM.v4 _ (hs)) (k := ?_)
    refine r_goto (tgt := 27) dX9_roundOf_19 (by decide) ?_
    first
     | exact r_iret dX9_roundOf_27 (mr_of hP (by unfold opRoundOf; repeat (first | rw [if_pos (by omega)] | rw [if_neg (by omega)]); try rfl) (fun _ => rfl))
     | exact r_iret dX9_roundOf_27 (mr_of (mpf hP 1) (by unfold opRoundOf; repeat (first | rw [if_pos (by omega)] | rw [if_neg (by omega)])) (fun h => absurd h (by decide)))
theorem m_lettersOf (hM : RM M Y σ) (hO : Ok σ T) (h : Int) (ha : inR h) : Ht G iX9_lettersOf yX9_lettersOf 10 [.ref (Y 0), .int (iz h)] M (MR Y M (opLettersOf σ h)) nX 0 0 := by
  obtain ⟨⟨p1, p2, p3, p4, p5, -⟩, hS, -⟩ := id hO
  refine ht_intro (by decide +kernel) rfl rfl rfl (Nat.le_of_ble_eq_true rfl) ?_
  refine r_aload_n dX9_lettersOf_0 rfl ?_
  refine r_iconst dX9_lettersOf_1 ?_
  refine r_putI qX9_81 dX9_lettersOf_2 hM.o (kk := ?_)
  refine gm (P := MP Y M σ 0) (mp0 hM) (fun M1 hP => ?_)
  have hM := hP.1
  refine r_aload_n dX9_lettersOf_5 rfl ?_
  refine r_iload_n dX9_lettersOf_6 rfl ?_
  refine r_callV (mi := iX9_lettersOf) vX9_114 dX9_lettersOf_7 hM.o (m_isHouse hM (by omega) h ha) (hm := ⟨by omega, by omega⟩) (k := kP ?_) (kx := r_nox)
  refine r_dif_eq (tgt := 22) dX9_lettersOf_10 (by decide) (kt := fun z10 => ?_) (kf := fun z10 => ?_)
  · refine r_aload_n dX9_lettersOf_22 rfl ?_
    refine r_iconst dX9_lettersOf_23 ?_
    refine r_callV (mi := iX9_lettersOf) vX9_100 dX9_lettersOf_24 hM.o (m_fails hM.o 1) (hm := ⟨by omega, by omega⟩) (k := kP ?_) (kx := r_nox)
    first
     | exact r_iret dX9_lettersOf_27 (mr_of hP (by unfold opLettersOf; repeat (first | rw [if_pos (by omega)] | rw [if_neg (by omega)]); try rfl) (fun _ => rfl))
     | exact r_iret dX9_lettersOf_27 (mr_of (mpf hP 1) (by unfold opLettersOf; repeat (first | rw [if_pos (by omega)] | rw [if_neg (by omega)])) (fun h => absurd h (by decide)))
  · obtain ⟨h, rfl⟩ := nat_of (a := h) (by omega)
    have hh : h < σ.1 2 := by omega
    refine r_aload_n dX9_lettersOf_13 rfl ?_
    refine r_getR qX9_31 dX9_lettersOf_14 hM.o (hM.r 8) (kk := ?_)
    refine r_iload_n dX9_lettersOf_17 rfl ?_
    refine r_iald dX9_lettersOf_18 (hM.cc 8 11 30) rfl (hM.v 8 _ (hO.h8 hh)) (k := ?_)
    refine r_goto (tgt := 27) dX9_lettersOf_19 (by decide) ?_
    first
     | exact r_iret dX9_lettersOf_27 (mr_of hP (by unfold opLettersOf; repeat (first | rw [if_pos (by omega)] | rw [if_neg (by omega)]); try rfl) (fun _ => rfl))
     | exact r_iret dX9_lettersOf_27 (mr_of (mpf hP 1) (by unfold opLettersOf; repeat (first | rw [if_pos (by omega)] | rw [if_neg (by omega)])) (fun h => absurd h (by decide)))
theorem m_isDue (hM : RM M Y σ) (hO : Ok σ T) (h : Int) (ha : inR h) : Ht G iX9_isDue yX9_isDue 10 [.ref (Y 0), .int (iz h)] M (MR Y M (opIsDue σ h)) nX 0 0 := by
  obtain ⟨⟨p1, p2, p3, p4, p5, -⟩, hS, -⟩ := id hO
  refine ht_intro (by decide +kernel) rfl rfl rfl (Nat.le_of_ble_eq_true rfl) ?_
  refine r_aload_n dX9_isDue_0 rfl ?_
  refine r_iconst dX9_isDue_1 ?_
  refine r_putI qX9_81 dX9_isDue_2 hM.o (kk := ?_)
  refine gm (P := MP Y M σ 0) (mp0 hM) (fun M1 hP => ?_)
  have hM := hP.1
  refine r_aload_n dX9_isDue_5 rfl ?_
  refine r_iload_n dX9_isDue_6 rfl ?_
  refine r_callV (mi := iX9_isDue) vX9_114 dX9_isDue_7 hM.o (m_isHouse hM (by omega) h ha) (hm := ⟨by omega, by omega⟩) (k := kP ?_) (kx := r_nox)
  refine r_dif_eq (tgt := 21) dX9_isDue_10 (by decide) (kt := fun z10 => ?_) (kf := fun z10 => ?_)
  · refine r_aload_n dX9_isDue_21 rfl ?_
    refine r_iconst dX9_isDue_22 ?_
    refine r_callV (mi := iX9_isDue) vX9_100 dX9_isDue_23 hM.o (m_fails hM.o 1) (hm := ⟨by omega, by omega⟩) (k := kP ?_) (kx := r_nox)
    refine r_if_le (tgt := 33) dX9_isDue_26 (by decide) (kt := fun z26 => ?_) (kf := fun z26 => (by exfalso; first | omega | simp_all))
    refine r_iconst dX9_isDue_33 ?_
    first
     | exact r_zret dX9_isDue_34 (mr_of hP (by unfold opIsDue; repeat (first | rw [if_pos (by omega)] | rw [if_neg (by omega)]); try rfl) (fun _ => rfl))
     | exact r_zret (x := false) dX9_isDue_34 (mr_of (mpf hP 1) (by unfold opIsDue; repeat (first | rw [if_pos (by omega)] | rw [if_neg (by omega)])) (fun h => absurd h (by decide)))
  · obtain ⟨h, rfl⟩ := nat_of (a := h) (by omega)
    have hh : h < σ.1 2 := by omega
    refine r_aload_n dX9_isDue_13 rfl ?_
    refine r_iload_n dX9_isDue_14 rfl ?_
    refine r_callV (mi := iX9_isDue) vX9_123 dX9_isDue_15 hM.o (m_isDueNow hM hO h hh) (hm := ⟨by omega, by omega⟩) (k := kP ?_) (kx := r_nox)
    refine r_goto (tgt := 34) dX9_isDue_18 (by decide) ?_
    first
     | exact r_zret dX9_isDue_34 (mr_of hP (by unfold opIsDue; repeat (first | rw [if_pos (by omega)] | rw [if_neg (by omega)]); try rfl) (fun _ => rfl))
     | exact r_zret (x := false) dX9_isDue_34 (mr_of (mpf hP 1) (by unfold opIsDue; repeat (first | rw [if_pos (by omega)] | rw [if_neg (by omega)])) (fun h => absurd h (by decide)))
theorem m_isAt (hM : RM M Y σ) (hO : Ok σ T) (h g : Nat) (hh : h < σ.1 2) (hg : g < 16) : Ht G iX9_isAt yX9_isAt 2 [.ref (Y 0), .int (iz (h : Int)), .int (iz (g : Int))] M (rP (bz (inG σ (σ.2 5 h) g)) M) nX 0 0 := by
  obtain ⟨⟨p1, p2, p3, p4, p5, -⟩, hS, hH, -⟩ := id hO
  obtain ⟨h1, h2, h3, h4⟩ := hH h hh
  obtain ⟨s1, s2, s3, s4, s5, s6, s7⟩ := hS (σ.2 5 h) h1
  refine ht_intro (by decide +kernel) rfl rfl rfl (Nat.le_of_ble_eq_true rfl) ?_
  refine r_aload_n dX9_isAt_0 rfl ?_
  refine r_getR qX9_19 dX9_isAt_1 hM.o (hM.r 4) (kk := ?_)
  refine r_aload_n dX9_isAt_4 rfl ?_
  refine r_getR qX9_22 dX9_isAt_5 hM.o (hM.r 5) (kk := ?_)
  refine r_iload_n dX9_isAt_8 rfl ?_
  refine r_iald dX9_isAt_9 (hM.cc 5 11 30) rfl (hM.v 5 _ (hh)) (k := ?_)
  refine r_iald dX9_isAt_10 (hM.cc 4 11 16) rfl (hM.v4 _ (h1)) (k := ?_)
  refine r_if_lt (tgt := 37) dX9_isAt_11 (by decide) (kt := fun z11 => ?_) (kf := fun z11 => ?_)
  · refine r_iconst dX9_isAt_37 ?_
    exact r_iret dX9_isAt_38 (rP_of (by first | exact bz_T (by unfold inG; rw [z30, bne_iff_ne.mpr (by omega)]; rfl) | exact bz_F (by unfold inG; rw [z30]; exact Bool.and_false _) | exact bz_F (by unfold inG; rw [show σ.2 4 (σ.2 5 h) = 0 by omega]; rfl)))
  · refine r_iload_n dX9_isAt_14 rfl ?_
    refine r_aload_n dX9_isAt_15 rfl ?_
    refine r_getR qX9_19 dX9_isAt_16 hM.o (hM.r 4) (kk := ?_)
    refine r_aload_n dX9_isAt_19 rfl ?_
    refine r_getR qX9_22 dX9_isAt_20 hM.o (hM.r 5) (kk := ?_)
    refine r_iload_n dX9_isAt_23 rfl ?_
    refine r_iald dX9_isAt_24 (hM.cc 5 11 30) rfl (hM.v 5 _ (hh)) (k := ?_)
    refine r_iald dX9_isAt_25 (hM.cc 4 11 16) rfl (hM.v4 _ (h1)) (k := ?_)
    refine r_ishr dX9_isAt_26 (rfl) ?_
    refine r_iconst dX9_isAt_27 ?_
    refine r_iand dX9_isAt_28 (bt_sh (r := σ.2 4 (σ.2 5 h) - 1) (by omega) (by omega) (by omega)) ?_
    refine r_iconst dX9_isAt_29 ?_
    refine r_b1_ne (tgt := 37) dX9_isAt_30 (by decide) (kt := fun z30 => ?_) (kf := fun z30 => ?_)
    · refine r_iconst dX9_isAt_37 ?_
      exact r_iret dX9_isAt_38 (rP_of (by first | exact bz_T (by unfold inG; rw [z30, bne_iff_ne.mpr (by omega)]; rfl) | exact bz_F (by unfold inG; rw [z30]; exact Bool.and_false _) | exact bz_F (by unfold inG; rw [show σ.2 4 (σ.2 5 h) = 0 by omega]; rfl)))
    · refine r_iconst dX9_isAt_33 ?_
      refine r_goto (tgt := 38) dX9_isAt_34 (by decide) ?_
      exact r_iret dX9_isAt_38 (rP_of (by first | exact bz_T (by unfold inG; rw [z30, bne_iff_ne.mpr (by omega)]; rfl) | exact bz_F (by unfold inG; rw [z30]; exact Bool.and_false _) | exact bz_F (by unfold inG; rw [show σ.2 4 (σ.2 5 h) = 0 by omega]; rfl)))
theorem m_dueAt (hM : RM M Y σ) (hO : Ok σ T) (g : Nat) (hg : g < 16) : Ht G iX9_dueAt yX9_dueAt 7 [.ref (Y 0), .int (iz (g : Int))] M (rP (iz (dueN σ g : Int)) M) nX 0 0 := by
  obtain ⟨⟨p1, p2, p3, p4, p5, -⟩, hS, hH, -⟩ := id hO
  refine ht_intro (by decide +kernel) rfl rfl rfl (Nat.le_of_ble_eq_true rfl) ?_
  have loop : ∀ k i : Nat, i + k = σ.1 2 → SWG G iX9_dueAt (rmd 7 0 0) (QF G (rP (iz (dueN σ g : Int)) M) nX 0 0) 4 [(3, .int (iz (i : Int))), (2, .int (iz (cnt (dueB σ g) i : Int))), (0, .ref (Y 0)), (1, .int (iz (g : Int)))] [] M 0 0 := by
    intro k
    induction k with
    | zero =>
      intro i hi
      have hi2 : i = σ.1 2 := by omega
      subst hi2
      refine r_iload_n dX9_dueAt_4 rfl ?_
      refine r_aload_n dX9_dueAt_5 rfl ?_
      refine r_getI qX9_91 dX9_dueAt_6 hM.o (x := iz (σ.1 2 : Int)) (hM.s 2) (kk := ?_)
      refine r_icmp_ge (tgt := 43) dX9_dueAt_9 (by decide) (kt := fun z9 => ?_) (kf := fun z9 => (by exfalso; first | omega | simp_all))
      refine r_iload_n dX9_dueAt_43 rfl ?_
      exact r_iret dX9_dueAt_44 (rP_mk _ _)
    | succ k ih =>
      intro i hi
      refine r_iload_n dX9_dueAt_4 rfl ?_
      refine r_aload_n dX9_dueAt_5 rfl ?_
      refine r_getI qX9_91 dX9_dueAt_6 hM.o (x := iz (σ.1 2 : Int)) (hM.s 2) (kk := ?_)
      refine r_icmp_ge (tgt := 43) dX9_dueAt_9 (by decide) (kt := fun z9 => (by exfalso; first | omega | simp_all)) (kf := fun z9 => ?_)
      refine r_iload_n dX9_dueAt_12 rfl ?_
      refine r_aload_n dX9_dueAt_13 rfl ?_
      refine r_iload_n dX9_dueAt_14 rfl ?_
      refine r_iload_n dX9_dueAt_15 rfl ?_
      refine r_callV (mi := iX9_dueAt) vX9_129 dX9_dueAt_16 hM.o (m_isAt hM hO i g (by omega) hg) (hm := ⟨by omega, by omega⟩) (k := kP ?_) (kx := r_nox)
      refine r_bif_eq (tgt := 34) dX9_dueAt_19 (by decide) (kt := fun z19 => ?_) (kf := fun z19 => ?_)
      · refine r_iconst dX9_dueAt_34 ?_
        refine r_iadd dX9_dueAt_35 ?_
        refine r_istore_n dX9_dueAt_36 (k := ?_)
        refine r_iinc dX9_dueAt_37 rfl (k := ?_)
        refine r_goto (tgt := 4) dX9_dueAt_40 (by decide) ?_
        refine r_loc' (ih (i + 1) (by omega)) ⟨rfl, ?_, rfl, rfl, trivial⟩
        first
          | exact lkI (cnt_T (by unfold dueB; rw [z19, z27]; rfl)).symm
          | exact lkI (cnt_F (by unfold dueB; rw [z27]; exact Bool.and_false _)).symm
          | exact lkI (cnt_F (by unfold dueB; rw [z19]; rfl)).symm
      · refine r_aload_n dX9_dueAt_22 rfl ?_
        refine r_iload_n dX9_dueAt_23 rfl ?_
        refine r_callV (mi := iX9_dueAt) vX9_123 dX9_dueAt_24 hM.o (m_isDueNow hM hO i (by omega)) (hm := ⟨by omega, by omega⟩) (k := kP ?_) (kx := r_nox)
        refine r_bif_eq (tgt := 34) dX9_dueAt_27 (by decide) (kt := fun z27 => ?_) (kf := fun z27 => ?_)
        · refine r_iconst dX9_dueAt_34 ?_
          refine r_iadd dX9_dueAt_35 ?_
          refine r_istore_n dX9_dueAt_36 (k := ?_)
          refine r_iinc dX9_dueAt_37 rfl (k := ?_)
          refine r_goto (tgt := 4) dX9_dueAt_40 (by decide) ?_
          refine r_loc' (ih (i + 1) (by omega)) ⟨rfl, ?_, rfl, rfl, trivial⟩
          first
            | exact lkI (cnt_T (by unfold dueB; rw [z19, z27]; rfl)).symm
            | exact lkI (cnt_F (by unfold dueB; rw [z27]; exact Bool.and_false _)).symm
            | exact lkI (cnt_F (by unfold dueB; rw [z19]; rfl)).symm
        · refine r_iconst dX9_dueAt_30 ?_
          refine r_goto (tgt := 35) dX9_dueAt_31 (by decide) ?_
          refine r_iadd dX9_dueAt_35 ?_
          refine r_istore_n dX9_dueAt_36 (k := ?_)
          refine r_iinc dX9_dueAt_37 rfl (k := ?_)
          refine r_goto (tgt := 4) dX9_dueAt_40 (by decide) ?_
          refine r_loc' (ih (i + 1) (by omega)) ⟨rfl, ?_, rfl, rfl, trivial⟩
          first
            | exact lkI (cnt_T (by unfold dueB; rw [z19, z27]; rfl)).symm
            | exact lkI (cnt_F (by unfold dueB; rw [z27]; exact Bool.and_false _)).symm
            | exact lkI (cnt_F (by unfold dueB; rw [z19]; rfl)).symm
  refine r_iconst dX9_dueAt_0 ?_
  refine r_istore_n dX9_dueAt_1 (k := ?_)
  refine r_iconst dX9_dueAt_2 ?_
  refine r_istore_n dX9_dueAt_3 (k := ?_)
  exact r_loc' (loop (σ.1 2) 0 (by omega)) ⟨rfl, rfl, rfl, rfl, trivial⟩
theorem m_due (hM : RM M Y σ) (hO : Ok σ T) (r : Int) (ha : inR r) : Ht G iX9_due yX9_due 10 [.ref (Y 0), .int (iz r)] M (MR Y M (opDue σ r)) nX 0 0 := by
  obtain ⟨⟨p1, p2, p3, p4, p5, -⟩, hS, -⟩ := id hO
  refine ht_intro (by decide +kernel) rfl rfl rfl (Nat.le_of_ble_eq_true rfl) ?_
  refine r_aload_n dX9_due_0 rfl ?_
  refine r_iconst dX9_due_1 ?_
  refine r_putI qX9_81 dX9_due_2 hM.o (kk := ?_)
  refine gm (P := MP Y M σ 0) (mp0 hM) (fun M1 hP => ?_)
  have hM := hP.1
  refine r_aload_n dX9_due_5 rfl ?_
  refine r_iload_n dX9_due_6 rfl ?_
  refine r_callV (mi := iX9_due) vX9_111 dX9_due_7 hM.o (m_isRound hM (by omega) r ha) (hm := ⟨by omega, by omega⟩) (k := kP ?_) (kx := r_nox)
  refine r_dif_eq (tgt := 23) dX9_due_10 (by decide) (kt := fun z10 => ?_) (kf := fun z10 => ?_)
  · refine r_aload_n dX9_due_23 rfl ?_
    refine r_iconst dX9_due_24 ?_
    refine r_callV (mi := iX9_due) vX9_100 dX9_due_25 hM.o (m_fails hM.o 1) (hm := ⟨by omega, by omega⟩) (k := kP ?_) (kx := r_nox)
    first
     | exact r_iret dX9_due_28 (mr_of hP (by unfold opDue; repeat (first | rw [if_pos (by omega)] | rw [if_neg (by omega)]); try rfl) (fun _ => rfl))
     | exact r_iret dX9_due_28 (mr_of (mpf hP 1) (by unfold opDue; repeat (first | rw [if_pos (by omega)] | rw [if_neg (by omega)])) (fun h => absurd h (by decide)))
  · obtain ⟨r, rfl⟩ := nat_of (a := r) (by omega)
    refine r_aload_n dX9_due_13 rfl ?_
    refine r_iconst dX9_due_14 ?_
    refine r_iload_n dX9_due_15 rfl ?_
    refine r_ishl dX9_due_16 (sl_1 rfl (by omega)) ?_
    refine r_callV (mi := iX9_due) vX9_133 dX9_due_17 hM.o (m_dueAt hM hO (2 ^ r) (two_lt (by omega))) (hm := ⟨by omega, by omega⟩) (k := kP ?_) (kx := r_nox)
    refine r_goto (tgt := 28) dX9_due_20 (by decide) ?_
    first
     | exact r_iret dX9_due_28 (mr_of hP (by unfold opDue; repeat (first | rw [if_pos (by omega)] | rw [if_neg (by omega)]); try rfl) (fun _ => rfl))
     | exact r_iret dX9_due_28 (mr_of (mpf hP 1) (by unfold opDue; repeat (first | rw [if_pos (by omega)] | rw [if_neg (by omega)])) (fun h => absurd h (by decide)))
theorem fnd_none {P : Nat → Bool} {n : Nat} (h : fnd P n = none) (hp : P n = false) : fnd P (n + 1) = none := by
  simp [fnd, h, hp]
theorem fnd_hit {P : Nat → Bool} {i : Nat} (h : fnd P i = none) (hp : P i = true) : ∀ k, fnd P (i + 1 + k) = some i
  | 0 => by simp [fnd, h, hp]
  | k + 1 => by
    show fnd P (i + 1 + k + 1) = _
    simp [fnd, fnd_hit h hp k]
theorem houseAt_in {Qf : List Frame → Array Value → State → State → Prop} (hM : RM M Y σ) (hO : Ok σ T) (s d h : Nat) (r : Value) (hs : σ.2 5 h = s) (hd : σ.2 6 h = d) (hh : h < σ.1 2) (kk : SWG G iX9_houseAt (rmd 10 0 0) Qf 165 [(5, .int (iz (rank σ h : Int))), (4, .int (iz (h : Int))), (0, .ref (Y 0)), (1, .int (iz (s : Int))), (2, .int (iz (d : Int))), (3, r)] [] M 0 0) : ∀ k i : Nat, i + k = σ.1 2 → SWG G iX9_houseAt (rmd 10 0 0) Qf 77 [(6, .int (iz (i : Int))), (5, .int (iz (cnt (rankB σ h) i : Int))), (4, .int (iz (h : Int))), (0, .ref (Y 0)), (1, .int (iz (s : Int))), (2, .int (iz (d : Int))), (3, r)] [] M 0 0 := by
  obtain ⟨⟨-, -, p3, p4, -⟩, hS, hH, -⟩ := id hO
  obtain ⟨h1, h2, h3, h4⟩ := hH h hh
  obtain ⟨-, -, -, -, s5, -, -⟩ := hS (σ.2 5 h) h1
  intro k
  induction k with
  | zero =>
    intro i hi
    have hi2 : i = σ.1 2 := by omega
    subst hi2
    refine r_iload dX9_houseAt_77 rfl ?_
    refine r_aload_n dX9_houseAt_79 rfl ?_
    refine r_getI qX9_91 dX9_houseAt_80 hM.o (x := iz (σ.1 2 : Int)) (hM.s 2) (kk := ?_)
    refine r_icmp_ge (tgt := 165) dX9_houseAt_83 (by decide) (kt := fun z83 => ?_) (kf := fun z83 => (by exfalso; first | omega | simp_all))
    exact r_loc' kk ⟨rfl, rfl, rfl, rfl, rfl, rfl, trivial⟩
  | succ k ih =>
    intro i hi
    have hi3 : i < σ.1 2 := by omega
    obtain ⟨g1, g2, g3, g4⟩ := hH i hi3
    obtain ⟨-, -, -, -, t5, -, -⟩ := hS (σ.2 5 i) g1
    have hc := cnt_le (rankB σ h) i
    have e0 : rankB σ h i = (decide (σ.2 5 i = s) && decide (σ.2 6 i = d) && (decide (σ.2 7 i < σ.2 7 h) || (decide (σ.2 7 i = σ.2 7 h) && decide (i < h)))) := by
      unfold rankB; rw [hs, hd]; rfl
    refine r_iload dX9_houseAt_77 rfl ?_
    refine r_aload_n dX9_houseAt_79 rfl ?_
    refine r_getI qX9_91 dX9_houseAt_80 hM.o (x := iz (σ.1 2 : Int)) (hM.s 2) (kk := ?_)
    refine r_icmp_ge (tgt := 165) dX9_houseAt_83 (by decide) (kt := fun z83 => (by exfalso; first | omega | simp_all)) (kf := fun z83 => ?_)
    refine r_iload dX9_houseAt_86 rfl ?_
    refine r_aload_n dX9_houseAt_88 rfl ?_
    refine r_getR qX9_22 dX9_houseAt_89 hM.o (hM.r 5) (kk := ?_)
    refine r_iload dX9_houseAt_92 rfl ?_
    refine r_iald dX9_houseAt_94 (hM.cc 5 11 30) rfl (hM.v 5 _ (hi3)) (k := ?_)
    refine r_iload_n dX9_houseAt_95 rfl ?_
    refine r_icmp_ne (tgt := 155) dX9_houseAt_96 (by decide) (kt := fun z96 => ?_) (kf := fun z96 => ?_)
    · refine r_iconst dX9_houseAt_155 ?_
      refine r_iadd dX9_houseAt_156 ?_
      refine r_istore dX9_houseAt_157 (k := ?_)
      refine r_iinc dX9_houseAt_159 rfl (k := ?_)
      refine r_goto (tgt := 77) dX9_houseAt_162 (by decide) ?_
      refine r_loc' (ih (i + 1) (by omega)) ⟨rfl, ?_, rfl, rfl, rfl, rfl, rfl, trivial⟩
      clear ih g1 g2 g4 h1 h2 h4 hc hs hd t5 s5 p3 p4
      first
        | exact lkI (cnt_T (by rw [e0]; simp only [Bool.and_eq_true, Bool.or_eq_true, decide_eq_true_eq]; omega)).symm
        | exact lkI (cnt_F (by rw [e0]; rw [Bool.eq_false_iff]; simp only [ne_eq, Bool.and_eq_true, Bool.or_eq_true, decide_eq_true_eq]; omega)).symm
    · refine r_aload_n dX9_houseAt_99 rfl ?_
      refine r_getR qX9_25 dX9_houseAt_100 hM.o (hM.r 6) (kk := ?_)
      refine r_iload dX9_houseAt_103 rfl ?_
      refine r_iald dX9_houseAt_105 (hM.cc 6 11 30) rfl (hM.v 6 _ (hi3)) (k := ?_)
      refine r_iload_n dX9_houseAt_106 rfl ?_
      refine r_icmp_ne (tgt := 155) dX9_houseAt_107 (by decide) (kt := fun z107 => ?_) (kf := fun z107 => ?_)
      · refine r_iconst dX9_houseAt_155 ?_
        refine r_iadd dX9_houseAt_156 ?_
        refine r_istore dX9_houseAt_157 (k := ?_)
        refine r_iinc dX9_houseAt_159 rfl (k := ?_)
        refine r_goto (tgt := 77) dX9_houseAt_162 (by decide) ?_
        refine r_loc' (ih (i + 1) (by omega)) ⟨rfl, ?_, rfl, rfl, rfl, rfl, rfl, trivial⟩
        clear ih g1 g2 g4 h1 h2 h4 hc hs hd t5 s5 p3 p4
        first
          | exact lkI (cnt_T (by rw [e0]; simp only [Bool.and_eq_true, Bool.or_eq_true, decide_eq_true_eq]; omega)).symm
          | exact lkI (cnt_F (by rw [e0]; rw [Bool.eq_false_iff]; simp only [ne_eq, Bool.and_eq_true, Bool.or_eq_true, decide_eq_true_eq]; omega)).symm
      · refine r_aload_n dX9_houseAt_110 rfl ?_
        refine r_getR qX9_28 dX9_houseAt_111 hM.o (hM.r 7) (kk := ?_)
        refine r_iload dX9_houseAt_114 rfl ?_
        refine r_iald dX9_houseAt_116 (hM.cc 7 11 30) rfl (hM.v 7 _ (hi3)) (k := ?_)
        refine r_aload_n dX9_houseAt_117 rfl ?_
        refine r_getR qX9_28 dX9_houseAt_118 hM.o (hM.r 7) (kk := ?_)
        refine r_iload dX9_houseAt_121 rfl ?_
        refine r_iald dX9_houseAt_123 (hM.cc 7 11 30) rfl (hM.v 7 _ (hh)) (k := ?_)
        refine r_icmp_lt (tgt := 151) dX9_houseAt_124 (by decide) (kt := fun z124 => ?_) (kf := fun z124 => ?_)
        · refine r_iconst dX9_houseAt_151 ?_
          refine r_goto (tgt := 156) dX9_houseAt_152 (by decide) ?_
          refine r_iadd dX9_houseAt_156 ?_
          refine r_istore dX9_houseAt_157 (k := ?_)
          refine r_iinc dX9_houseAt_159 rfl (k := ?_)
          refine r_goto (tgt := 77) dX9_houseAt_162 (by decide) ?_
          refine r_loc' (ih (i + 1) (by omega)) ⟨rfl, ?_, rfl, rfl, rfl, rfl, rfl, trivial⟩
          clear ih g1 g2 g4 h1 h2 h4 hc hs hd t5 s5 p3 p4
          first
            | exact lkI (cnt_T (by rw [e0]; simp only [Bool.and_eq_true, Bool.or_eq_true, decide_eq_true_eq]; omega)).symm
            | exact lkI (cnt_F (by rw [e0]; rw [Bool.eq_false_iff]; simp only [ne_eq, Bool.and_eq_true, Bool.or_eq_true, decide_eq_true_eq]; omega)).symm
        · refine r_aload_n dX9_houseAt_127 rfl ?_
          refine r_getR qX9_28 dX9_houseAt_128 hM.o (hM.r 7) (kk := ?_)
          refine r_iload dX9_houseAt_131 rfl ?_
          refine r_iald dX9_houseAt_133 (hM.cc 7 11 30) rfl (hM.v 7 _ (hi3)) (k := ?_)
          refine r_aload_n dX9_houseAt_134 rfl ?_
          refine r_getR qX9_28 dX9_houseAt_135 hM.o (hM.r 7) (kk := ?_)
          refine r_iload dX9_houseAt_138 rfl ?_
          refine r_iald dX9_houseAt_140 (hM.cc 7 11 30) rfl (hM.v 7 _ (hh)) (k := ?_)
          refine r_icmp_ne (tgt := 155) dX9_houseAt_141 (by decide) (kt := fun z141 => ?_) (kf := fun z141 => ?_)
          · refine r_iconst dX9_houseAt_155 ?_
            refine r_iadd dX9_houseAt_156 ?_
            refine r_istore dX9_houseAt_157 (k := ?_)
            refine r_iinc dX9_houseAt_159 rfl (k := ?_)
            refine r_goto (tgt := 77) dX9_houseAt_162 (by decide) ?_
            refine r_loc' (ih (i + 1) (by omega)) ⟨rfl, ?_, rfl, rfl, rfl, rfl, rfl, trivial⟩
            clear ih g1 g2 g4 h1 h2 h4 hc hs hd t5 s5 p3 p4
            first
              | exact lkI (cnt_T (by rw [e0]; simp only [Bool.and_eq_true, Bool.or_eq_true, decide_eq_true_eq]; omega)).symm
              | exact lkI (cnt_F (by rw [e0]; rw [Bool.eq_false_iff]; simp only [ne_eq, Bool.and_eq_true, Bool.or_eq_true, decide_eq_true_eq]; omega)).symm
          · refine r_iload dX9_houseAt_144 rfl ?_
            refine r_iload dX9_houseAt_146 rfl ?_
            refine r_icmp_ge (tgt := 155) dX9_houseAt_148 (by decide) (kt := fun z148 => ?_) (kf := fun z148 => ?_)
            · refine r_iconst dX9_houseAt_155 ?_
              refine r_iadd dX9_houseAt_156 ?_
              refine r_istore dX9_houseAt_157 (k := ?_)
              refine r_iinc dX9_houseAt_159 rfl (k := ?_)
              refine r_goto (tgt := 77) dX9_houseAt_162 (by decide) ?_
              refine r_loc' (ih (i + 1) (by omega)) ⟨rfl, ?_, rfl, rfl, rfl, rfl, rfl, trivial⟩
              clear ih g1 g2 g4 h1 h2 h4 hc hs hd t5 s5 p3 p4
              first
                | exact lkI (cnt_T (by rw [e0]; simp only [Bool.and_eq_true, Bool.or_eq_true, decide_eq_true_eq]; omega)).symm
                | exact lkI (cnt_F (by rw [e0]; rw [Bool.eq_false_iff]; simp only [ne_eq, Bool.and_eq_true, Bool.or_eq_true, decide_eq_true_eq]; omega)).symm
            · refine r_iconst dX9_houseAt_151 ?_
              refine r_goto (tgt := 156) dX9_houseAt_152 (by decide) ?_
              refine r_iadd dX9_houseAt_156 ?_
              refine r_istore dX9_houseAt_157 (k := ?_)
              refine r_iinc dX9_houseAt_159 rfl (k := ?_)
              refine r_goto (tgt := 77) dX9_houseAt_162 (by decide) ?_
              refine r_loc' (ih (i + 1) (by omega)) ⟨rfl, ?_, rfl, rfl, rfl, rfl, rfl, trivial⟩
              clear ih g1 g2 g4 h1 h2 h4 hc hs hd t5 s5 p3 p4
              first
                | exact lkI (cnt_T (by rw [e0]; simp only [Bool.and_eq_true, Bool.or_eq_true, decide_eq_true_eq]; omega)).symm
                | exact lkI (cnt_F (by rw [e0]; rw [Bool.eq_false_iff]; simp only [ne_eq, Bool.and_eq_true, Bool.or_eq_true, decide_eq_true_eq]; omega)).symm
theorem houseAt_loop {M1 : Mem} (hP : MP Y M σ 0 M1) (hO : Ok σ T) (s d : Nat) (r : Int) (hr : inR r) (hs : s < σ.1 1) (hd : d ≤ 1) : ∀ k i : Nat, i + k = σ.1 2 → fnd (atB σ s d r) i = none → SWG G iX9_houseAt (rmd 10 0 0) (QF G (MR Y M (opHouseAt σ s d r)) nX 0 0) 37 [(4, .int (iz (i : Int))), (0, .ref (Y 0)), (1, .int (iz (s : Int))), (2, .int (iz (d : Int))), (3, .int (iz r))] [] M1 0 0 := by
  obtain ⟨⟨p1, p2, p3, p4, p5, -⟩, hS, hH, -⟩ := id hO
  have hM := hP.1
  intro k
  induction k with
  | zero =>
    intro i hi hf
    have hi2 : i = σ.1 2 := by omega
    subst hi2
    refine r_iload dX9_houseAt_37 rfl ?_
    refine r_aload_n dX9_houseAt_39 rfl ?_
    refine r_getI qX9_91 dX9_houseAt_40 hM.o (x := iz (σ.1 2 : Int)) (hM.s 2) (kk := ?_)
    refine r_icmp_ge (tgt := 180) dX9_houseAt_43 (by decide) (kt := fun z43 => ?_) (kf := fun z43 => (by exfalso; first | omega | simp_all))
    refine r_aload_n dX9_houseAt_180 rfl ?_
    refine r_iconst dX9_houseAt_181 ?_
    refine r_callV (mi := iX9_houseAt) vX9_100 dX9_houseAt_182 hM.o (m_fails hM.o 3) (hm := ⟨by omega, by omega⟩) (k := kP ?_) (kx := r_nox)
    exact r_iret dX9_houseAt_185 (mr_of (mpf hP 3) (by unfold opHouseAt; rw [if_neg (by omega), if_neg (by omega), hf]) (fun h => absurd h (by decide)))
  | succ k ih =>
    intro i hi hf
    have hi3 : i < σ.1 2 := by omega
    obtain ⟨h1, h2, h3, h4⟩ := hH i hi3
    obtain ⟨s1, s2, s3, s4, s5, s6, s7⟩ := hS (σ.2 5 i) h1
    have hc := cnt_le (rankB σ i) (σ.1 2)
    have hc2 : rank σ i = cnt (rankB σ i) (σ.1 2) := rfl
    refine r_iload dX9_houseAt_37 rfl ?_
    refine r_aload_n dX9_houseAt_39 rfl ?_
    refine r_getI qX9_91 dX9_houseAt_40 hM.o (x := iz (σ.1 2 : Int)) (hM.s 2) (kk := ?_)
    refine r_icmp_ge (tgt := 180) dX9_houseAt_43 (by decide) (kt := fun z43 => (by exfalso; first | omega | simp_all)) (kf := fun z43 => ?_)
    refine r_aload_n dX9_houseAt_46 rfl ?_
    refine r_getR qX9_22 dX9_houseAt_47 hM.o (hM.r 5) (kk := ?_)
    refine r_iload dX9_houseAt_50 rfl ?_
    refine r_iald dX9_houseAt_52 (hM.cc 5 11 30) rfl (hM.v 5 _ (hi3)) (k := ?_)
    refine r_iload_n dX9_houseAt_53 rfl ?_
    refine r_icmp_ne (tgt := 174) dX9_houseAt_54 (by decide) (kt := fun z54 => ?_) (kf := fun z54 => ?_)
    · refine r_iinc dX9_houseAt_174 rfl (k := ?_)
      refine r_goto (tgt := 37) dX9_houseAt_177 (by decide) ?_
      exact r_loc' (ih (i + 1) (by omega) (fnd_none hf (by unfold atB; simp only [Bool.and_eq_false_iff, decide_eq_false_iff_not]; omega))) ⟨rfl, rfl, rfl, rfl, rfl, trivial⟩
    · refine r_aload_n dX9_houseAt_57 rfl ?_
      refine r_getR qX9_25 dX9_houseAt_58 hM.o (hM.r 6) (kk := ?_)
      refine r_iload dX9_houseAt_61 rfl ?_
      refine r_iald dX9_houseAt_63 (hM.cc 6 11 30) rfl (hM.v 6 _ (hi3)) (k := ?_)
      refine r_iload_n dX9_houseAt_64 rfl ?_
      refine r_icmp_eq (tgt := 71) dX9_houseAt_65 (by decide) (kt := fun z65 => ?_) (kf := fun z65 => ?_)
      · refine r_iconst dX9_houseAt_71 ?_
        refine r_istore dX9_houseAt_72 (k := ?_)
        refine r_iconst dX9_houseAt_74 ?_
        refine r_istore dX9_houseAt_75 (k := ?_)
        refine r_loc' (houseAt_in hM hO s d i (.int (iz r)) (by omega) (by omega) hi3 ?_ (σ.1 2) 0 (by omega)) ⟨rfl, rfl, rfl, rfl, rfl, rfl, rfl, trivial⟩
        refine r_iload dX9_houseAt_165 rfl ?_
        refine r_iload_n dX9_houseAt_167 rfl ?_
        refine r_icmp_ne (tgt := 174) dX9_houseAt_168 (by decide) (kt := fun z168 => ?_) (kf := fun z168 => ?_)
        · refine r_iinc dX9_houseAt_174 rfl (k := ?_)
          refine r_goto (tgt := 37) dX9_houseAt_177 (by decide) ?_
          exact r_loc' (ih (i + 1) (by omega) (fnd_none hf (by unfold atB; simp only [Bool.and_eq_false_iff, decide_eq_false_iff_not]; omega))) ⟨rfl, rfl, rfl, rfl, rfl, trivial⟩
        · refine r_iload dX9_houseAt_171 rfl ?_
          exact r_iret dX9_houseAt_173 (mr_of hP (by unfold opHouseAt; rw [if_neg (by omega), if_neg (by omega), show σ.1 2 = i + 1 + k by omega, fnd_hit hf (by unfold atB; simp only [Bool.and_eq_true, decide_eq_true_eq]; omega) k]) (fun _ => rfl))
      · refine r_goto (tgt := 174) dX9_houseAt_68 (by decide) ?_
        refine r_iinc dX9_houseAt_174 rfl (k := ?_)
        refine r_goto (tgt := 37) dX9_houseAt_177 (by decide) ?_
        exact r_loc' (ih (i + 1) (by omega) (fnd_none hf (by unfold atB; simp only [Bool.and_eq_false_iff, decide_eq_false_iff_not]; omega))) ⟨rfl, rfl, rfl, rfl, rfl, trivial⟩
theorem m_houseAt (hM : RM M Y σ) (hO : Ok σ T) (s d r : Int) (ha : inR s) (hb : inR d) (hl : inR r) : Ht G iX9_houseAt yX9_houseAt 10 [.ref (Y 0), .int (iz s), .int (iz d), .int (iz r)] M (MR Y M (opHouseAt σ s d r)) nX 0 0 := by
  obtain ⟨⟨p1, p2, p3, p4, p5, -⟩, hS, hH, -⟩ := id hO
  refine ht_intro (by decide +kernel) rfl rfl rfl (Nat.le_of_ble_eq_true rfl) ?_
  refine r_aload_n dX9_houseAt_0 rfl ?_
  refine r_iconst dX9_houseAt_1 ?_
  refine r_putI qX9_81 dX9_houseAt_2 hM.o (kk := ?_)
  refine gm (P := MP Y M σ 0) (mp0 hM) (fun M1 hP => ?_)
  have hM := hP.1
  refine r_aload_n dX9_houseAt_5 rfl ?_
  refine r_iload_n dX9_houseAt_6 rfl ?_
  refine r_callV (mi := iX9_houseAt) vX9_108 dX9_houseAt_7 hM.o (m_isStreet hM (by omega) s ha) (hm := ⟨by omega, by omega⟩) (k := kP ?_) (kx := r_nox)
  refine r_dif_ne (tgt := 19) dX9_houseAt_10 (by decide) (kt := fun z10 => ?_) (kf := fun z10 => ?_)
  · refine r_iload_n dX9_houseAt_19 rfl ?_
    refine r_iconst dX9_houseAt_20 ?_
    refine r_iconst dX9_houseAt_21 ?_
    refine r_callS (mi := iX9_houseAt) vX9_87 dX9_houseAt_22 (m_isBetween d 0 1 hb (by omega) (by omega)) (hm := ⟨by omega, by omega⟩) (k := kP ?_) (kx := r_nox)
    refine r_dif_ne (tgt := 34) dX9_houseAt_25 (by decide) (kt := fun z25 => ?_) (kf := fun z25 => ?_)
    · obtain ⟨s, rfl⟩ := nat_of (a := s) (by omega)
      obtain ⟨d, rfl⟩ := nat_of (a := d) (by omega)
      refine r_iconst dX9_houseAt_34 ?_
      refine r_istore dX9_houseAt_35 (k := ?_)
      exact r_loc' (houseAt_loop hP hO s d r hl (by omega) (by omega) (σ.1 2) 0 (by omega) rfl) ⟨rfl, rfl, rfl, rfl, rfl, trivial⟩
    · refine r_aload_n dX9_houseAt_28 rfl ?_
      refine r_iconst dX9_houseAt_29 ?_
      refine r_callV (mi := iX9_houseAt) vX9_100 dX9_houseAt_30 hM.o (m_fails hM.o 2) (hm := ⟨by omega, by omega⟩) (k := kP ?_) (kx := r_nox)
      exact r_iret dX9_houseAt_33 (mr_of (mpf hP 2) (by unfold opHouseAt; repeat (first | rw [if_pos (by omega)] | rw [if_neg (by omega)])) (fun h => absurd h (by decide)))
  · refine r_aload_n dX9_houseAt_13 rfl ?_
    refine r_iconst dX9_houseAt_14 ?_
    refine r_callV (mi := iX9_houseAt) vX9_100 dX9_houseAt_15 hM.o (m_fails hM.o 1) (hm := ⟨by omega, by omega⟩) (k := kP ?_) (kx := r_nox)
    exact r_iret dX9_houseAt_18 (mr_of (mpf hP 1) (by unfold opHouseAt; repeat (first | rw [if_pos (by omega)] | rw [if_neg (by omega)])) (fun h => absurd h (by decide)))
end MD3
end
