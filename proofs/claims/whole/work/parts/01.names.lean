-- ===== PART A: goes FIRST, ahead of the names: the tables' words, and 'selects' of the private methods out of them =====
/-- a private method of a class that the tables say can be made, by its rows of tables_1 -/
def lw_okq (q : MethodName × Nat) : Prop := (q.1.cls ≠ "java/lang/invoke/MethodHandle" ∧ q.1.cls ≠ "java/lang/invoke/VarHandle") ∧ Cond.instantiable q.1.cls q.2 ∈ tables_1 ∧ Cond.privateMethod q.1 ∈ tables_1 ∧ Cond.instanceMethod q.1 ∈ tables_1
theorem lw_p0 : lw_okq (⟨"HedgeRecord$Acts", "presentRow", "()I"⟩, 4) := ⟨⟨by decide +kernel, by decide +kernel⟩, List.mem_of_getElem? (i := 313) (by decide +kernel), List.mem_of_getElem? (i := 455) (by decide +kernel), List.mem_of_getElem? (i := 456) (by decide +kernel)⟩
theorem lw_p1 : lw_okq (⟨"HedgeRecord", "putBytes", "(I)V"⟩, 16) := ⟨⟨by decide +kernel, by decide +kernel⟩, List.mem_of_getElem? (i := 23) (by decide +kernel), List.mem_of_getElem? (i := 519) (by decide +kernel), List.mem_of_getElem? (i := 520) (by decide +kernel)⟩
theorem lw_p2 : lw_okq (⟨"HedgeRecord$Reader", "step", "()V"⟩, 14) := ⟨⟨by decide +kernel, by decide +kernel⟩, List.mem_of_getElem? (i := 31) (by decide +kernel), List.mem_of_getElem? (i := 539) (by decide +kernel), List.mem_of_getElem? (i := 540) (by decide +kernel)⟩
theorem lw_p3 : lw_okq (⟨"HedgeRecord$Reader", "stepWord", "()V"⟩, 14) := ⟨⟨by decide +kernel, by decide +kernel⟩, List.mem_of_getElem? (i := 31) (by decide +kernel), List.mem_of_getElem? (i := 543) (by decide +kernel), List.mem_of_getElem? (i := 544) (by decide +kernel)⟩
theorem lw_p4 : lw_okq (⟨"HedgeRecord$Reader", "stepNumber", "()V"⟩, 14) := ⟨⟨by decide +kernel, by decide +kernel⟩, List.mem_of_getElem? (i := 31) (by decide +kernel), List.mem_of_getElem? (i := 547) (by decide +kernel), List.mem_of_getElem? (i := 548) (by decide +kernel)⟩
theorem lw_p5 : lw_okq (⟨"HedgeRecord$Reader", "readLine", "(LHedgeRecord$Hedge;)Z"⟩, 14) := ⟨⟨by decide +kernel, by decide +kernel⟩, List.mem_of_getElem? (i := 31) (by decide +kernel), List.mem_of_getElem? (i := 609) (by decide +kernel), List.mem_of_getElem? (i := 610) (by decide +kernel)⟩
theorem lw_p6 : lw_okq (⟨"HedgeRecord$Reader", "readStakes", "(LHedgeRecord$Hedge;)Z"⟩, 14) := ⟨⟨by decide +kernel, by decide +kernel⟩, List.mem_of_getElem? (i := 31) (by decide +kernel), List.mem_of_getElem? (i := 613) (by decide +kernel), List.mem_of_getElem? (i := 614) (by decide +kernel)⟩
theorem lw_p7 : lw_okq (⟨"HedgeRecord$Reader", "refuseToken", "()Z"⟩, 14) := ⟨⟨by decide +kernel, by decide +kernel⟩, List.mem_of_getElem? (i := 31) (by decide +kernel), List.mem_of_getElem? (i := 617) (by decide +kernel), List.mem_of_getElem? (i := 618) (by decide +kernel)⟩
theorem lw_p8 : lw_okq (⟨"HedgeRecord$Reader", "refuse", "(II)Z"⟩, 14) := ⟨⟨by decide +kernel, by decide +kernel⟩, List.mem_of_getElem? (i := 31) (by decide +kernel), List.mem_of_getElem? (i := 621) (by decide +kernel), List.mem_of_getElem? (i := 622) (by decide +kernel)⟩
theorem lw_p9 : lw_okq (⟨"HedgeRecord$Reader", "takeNumber", "(II)Z"⟩, 14) := ⟨⟨by decide +kernel, by decide +kernel⟩, List.mem_of_getElem? (i := 31) (by decide +kernel), List.mem_of_getElem? (i := 625) (by decide +kernel), List.mem_of_getElem? (i := 626) (by decide +kernel)⟩
theorem lw_p10 : lw_okq (⟨"HedgeRecord$Reader", "readPlant", "(LHedgeRecord$Hedge;)Z"⟩, 14) := ⟨⟨by decide +kernel, by decide +kernel⟩, List.mem_of_getElem? (i := 31) (by decide +kernel), List.mem_of_getElem? (i := 629) (by decide +kernel), List.mem_of_getElem? (i := 630) (by decide +kernel)⟩
theorem lw_p11 : lw_okq (⟨"HedgeRecord$Reader", "beginSort", "(III)Z"⟩, 14) := ⟨⟨by decide +kernel, by decide +kernel⟩, List.mem_of_getElem? (i := 31) (by decide +kernel), List.mem_of_getElem? (i := 633) (by decide +kernel), List.mem_of_getElem? (i := 634) (by decide +kernel)⟩
theorem lw_p12 : lw_okq (⟨"HedgeRecord$Reader", "isName", "()Z"⟩, 14) := ⟨⟨by decide +kernel, by decide +kernel⟩, List.mem_of_getElem? (i := 31) (by decide +kernel), List.mem_of_getElem? (i := 637) (by decide +kernel), List.mem_of_getElem? (i := 638) (by decide +kernel)⟩
theorem lw_p13 : lw_okq (⟨"HedgeRecord$Reader", "findName", "(II)I"⟩, 14) := ⟨⟨by decide +kernel, by decide +kernel⟩, List.mem_of_getElem? (i := 31) (by decide +kernel), List.mem_of_getElem? (i := 641) (by decide +kernel), List.mem_of_getElem? (i := 642) (by decide +kernel)⟩
theorem lw_p14 : lw_okq (⟨"HedgeRecord$Reader", "takeWord", "(I)Z"⟩, 14) := ⟨⟨by decide +kernel, by decide +kernel⟩, List.mem_of_getElem? (i := 31) (by decide +kernel), List.mem_of_getElem? (i := 645) (by decide +kernel), List.mem_of_getElem? (i := 646) (by decide +kernel)⟩
theorem lw_p15 : lw_okq (⟨"HedgeRecord$Reader", "isWord", "(I)Z"⟩, 14) := ⟨⟨by decide +kernel, by decide +kernel⟩, List.mem_of_getElem? (i := 31) (by decide +kernel), List.mem_of_getElem? (i := 649) (by decide +kernel), List.mem_of_getElem? (i := 650) (by decide +kernel)⟩
def lw_privs_1 : List (MethodName × Nat) := [(⟨"HedgeRecord$Acts", "presentRow", "()I"⟩, 4), (⟨"HedgeRecord", "putBytes", "(I)V"⟩, 16), (⟨"HedgeRecord$Reader", "step", "()V"⟩, 14), (⟨"HedgeRecord$Reader", "stepWord", "()V"⟩, 14), (⟨"HedgeRecord$Reader", "stepNumber", "()V"⟩, 14), (⟨"HedgeRecord$Reader", "readLine", "(LHedgeRecord$Hedge;)Z"⟩, 14), (⟨"HedgeRecord$Reader", "readStakes", "(LHedgeRecord$Hedge;)Z"⟩, 14), (⟨"HedgeRecord$Reader", "refuseToken", "()Z"⟩, 14), (⟨"HedgeRecord$Reader", "refuse", "(II)Z"⟩, 14), (⟨"HedgeRecord$Reader", "takeNumber", "(II)Z"⟩, 14), (⟨"HedgeRecord$Reader", "readPlant", "(LHedgeRecord$Hedge;)Z"⟩, 14), (⟨"HedgeRecord$Reader", "beginSort", "(III)Z"⟩, 14), (⟨"HedgeRecord$Reader", "isName", "()Z"⟩, 14), (⟨"HedgeRecord$Reader", "findName", "(II)I"⟩, 14), (⟨"HedgeRecord$Reader", "takeWord", "(I)Z"⟩, 14), (⟨"HedgeRecord$Reader", "isWord", "(I)Z"⟩, 14)]
theorem lw_r1 : ∀ q ∈ lw_privs_1, lw_okq q := List.forall_mem_cons.mpr ⟨lw_p0, List.forall_mem_cons.mpr ⟨lw_p1, List.forall_mem_cons.mpr ⟨lw_p2, List.forall_mem_cons.mpr ⟨lw_p3, List.forall_mem_cons.mpr ⟨lw_p4, List.forall_mem_cons.mpr ⟨lw_p5, List.forall_mem_cons.mpr ⟨lw_p6, List.forall_mem_cons.mpr ⟨lw_p7, List.forall_mem_cons.mpr ⟨lw_p8, List.forall_mem_cons.mpr ⟨lw_p9, List.forall_mem_cons.mpr ⟨lw_p10, List.forall_mem_cons.mpr ⟨lw_p11, List.forall_mem_cons.mpr ⟨lw_p12, List.forall_mem_cons.mpr ⟨lw_p13, List.forall_mem_cons.mpr ⟨lw_p14, List.forall_mem_cons.mpr ⟨lw_p15, fun _ h => absurd h List.not_mem_nil⟩⟩⟩⟩⟩⟩⟩⟩⟩⟩⟩⟩⟩⟩⟩⟩
theorem lw_p16 : lw_okq (⟨"HedgeRecord$Reader", "readTopic", "(LHedgeRecord$Hedge;)Z"⟩, 14) := ⟨⟨by decide +kernel, by decide +kernel⟩, List.mem_of_getElem? (i := 31) (by decide +kernel), List.mem_of_getElem? (i := 653) (by decide +kernel), List.mem_of_getElem? (i := 654) (by decide +kernel)⟩
theorem lw_p17 : lw_okq (⟨"HedgeRecord$Reader", "readBill", "(LHedgeRecord$Hedge;)Z"⟩, 14) := ⟨⟨by decide +kernel, by decide +kernel⟩, List.mem_of_getElem? (i := 31) (by decide +kernel), List.mem_of_getElem? (i := 657) (by decide +kernel), List.mem_of_getElem? (i := 658) (by decide +kernel)⟩
theorem lw_p18 : lw_okq (⟨"HedgeRecord$Reader", "takeKnown", "(II)Z"⟩, 14) := ⟨⟨by decide +kernel, by decide +kernel⟩, List.mem_of_getElem? (i := 31) (by decide +kernel), List.mem_of_getElem? (i := 661) (by decide +kernel), List.mem_of_getElem? (i := 662) (by decide +kernel)⟩
theorem lw_p19 : lw_okq (⟨"HedgeRecord$Reader", "takeSaying", "()Z"⟩, 14) := ⟨⟨by decide +kernel, by decide +kernel⟩, List.mem_of_getElem? (i := 31) (by decide +kernel), List.mem_of_getElem? (i := 665) (by decide +kernel), List.mem_of_getElem? (i := 666) (by decide +kernel)⟩
theorem lw_p20 : lw_okq (⟨"HedgeRecord$Reader", "isSign", "(I)Z"⟩, 14) := ⟨⟨by decide +kernel, by decide +kernel⟩, List.mem_of_getElem? (i := 31) (by decide +kernel), List.mem_of_getElem? (i := 669) (by decide +kernel), List.mem_of_getElem? (i := 670) (by decide +kernel)⟩
theorem lw_p21 : lw_okq (⟨"HedgeRecord$Reader", "takeOther", "(II)Z"⟩, 14) := ⟨⟨by decide +kernel, by decide +kernel⟩, List.mem_of_getElem? (i := 31) (by decide +kernel), List.mem_of_getElem? (i := 673) (by decide +kernel), List.mem_of_getElem? (i := 674) (by decide +kernel)⟩
theorem lw_p22 : lw_okq (⟨"HedgeRecord$Reader", "readParty", "(LHedgeRecord$Hedge;)Z"⟩, 14) := ⟨⟨by decide +kernel, by decide +kernel⟩, List.mem_of_getElem? (i := 31) (by decide +kernel), List.mem_of_getElem? (i := 681) (by decide +kernel), List.mem_of_getElem? (i := 682) (by decide +kernel)⟩
theorem lw_p23 : lw_okq (⟨"HedgeRecord$Reader", "readWants", "(LHedgeRecord$Hedge;)Z"⟩, 14) := ⟨⟨by decide +kernel, by decide +kernel⟩, List.mem_of_getElem? (i := 31) (by decide +kernel), List.mem_of_getElem? (i := 685) (by decide +kernel), List.mem_of_getElem? (i := 686) (by decide +kernel)⟩
theorem lw_p24 : lw_okq (⟨"HedgeRecord$Reader", "beginOnce", "()Z"⟩, 14) := ⟨⟨by decide +kernel, by decide +kernel⟩, List.mem_of_getElem? (i := 31) (by decide +kernel), List.mem_of_getElem? (i := 689) (by decide +kernel), List.mem_of_getElem? (i := 690) (by decide +kernel)⟩
theorem lw_p25 : lw_okq (⟨"HedgeRecord$Reader", "readLevel", "(LHedgeRecord$Formula;II)Z"⟩, 14) := ⟨⟨by decide +kernel, by decide +kernel⟩, List.mem_of_getElem? (i := 31) (by decide +kernel), List.mem_of_getElem? (i := 693) (by decide +kernel), List.mem_of_getElem? (i := 694) (by decide +kernel)⟩
theorem lw_p26 : lw_okq (⟨"HedgeRecord$Reader", "readUnit", "(LHedgeRecord$Formula;I)Z"⟩, 14) := ⟨⟨by decide +kernel, by decide +kernel⟩, List.mem_of_getElem? (i := 31) (by decide +kernel), List.mem_of_getElem? (i := 697) (by decide +kernel), List.mem_of_getElem? (i := 698) (by decide +kernel)⟩
theorem lw_p27 : lw_okq (⟨"HedgeRecord$Reader", "singleUnit", "()I"⟩, 14) := ⟨⟨by decide +kernel, by decide +kernel⟩, List.mem_of_getElem? (i := 31) (by decide +kernel), List.mem_of_getElem? (i := 701) (by decide +kernel), List.mem_of_getElem? (i := 702) (by decide +kernel)⟩
theorem lw_p28 : lw_okq (⟨"HedgeRecord$Reader", "takeSign", "(I)Z"⟩, 14) := ⟨⟨by decide +kernel, by decide +kernel⟩, List.mem_of_getElem? (i := 31) (by decide +kernel), List.mem_of_getElem? (i := 705) (by decide +kernel), List.mem_of_getElem? (i := 706) (by decide +kernel)⟩
theorem lw_p29 : lw_okq (⟨"HedgeRecord$Reader", "readNot", "(LHedgeRecord$Formula;I)Z"⟩, 14) := ⟨⟨by decide +kernel, by decide +kernel⟩, List.mem_of_getElem? (i := 31) (by decide +kernel), List.mem_of_getElem? (i := 713) (by decide +kernel), List.mem_of_getElem? (i := 714) (by decide +kernel)⟩
theorem lw_p30 : lw_okq (⟨"HedgeRecord$Reader", "joinedBy", "(I)I"⟩, 14) := ⟨⟨by decide +kernel, by decide +kernel⟩, List.mem_of_getElem? (i := 31) (by decide +kernel), List.mem_of_getElem? (i := 717) (by decide +kernel), List.mem_of_getElem? (i := 718) (by decide +kernel)⟩
theorem lw_p31 : lw_okq (⟨"HedgeRecord$Reader", "readFrost", "(LHedgeRecord$Hedge;)Z"⟩, 14) := ⟨⟨by decide +kernel, by decide +kernel⟩, List.mem_of_getElem? (i := 31) (by decide +kernel), List.mem_of_getElem? (i := 721) (by decide +kernel), List.mem_of_getElem? (i := 722) (by decide +kernel)⟩
def lw_privs_2 : List (MethodName × Nat) := [(⟨"HedgeRecord$Reader", "readTopic", "(LHedgeRecord$Hedge;)Z"⟩, 14), (⟨"HedgeRecord$Reader", "readBill", "(LHedgeRecord$Hedge;)Z"⟩, 14), (⟨"HedgeRecord$Reader", "takeKnown", "(II)Z"⟩, 14), (⟨"HedgeRecord$Reader", "takeSaying", "()Z"⟩, 14), (⟨"HedgeRecord$Reader", "isSign", "(I)Z"⟩, 14), (⟨"HedgeRecord$Reader", "takeOther", "(II)Z"⟩, 14), (⟨"HedgeRecord$Reader", "readParty", "(LHedgeRecord$Hedge;)Z"⟩, 14), (⟨"HedgeRecord$Reader", "readWants", "(LHedgeRecord$Hedge;)Z"⟩, 14), (⟨"HedgeRecord$Reader", "beginOnce", "()Z"⟩, 14), (⟨"HedgeRecord$Reader", "readLevel", "(LHedgeRecord$Formula;II)Z"⟩, 14), (⟨"HedgeRecord$Reader", "readUnit", "(LHedgeRecord$Formula;I)Z"⟩, 14), (⟨"HedgeRecord$Reader", "singleUnit", "()I"⟩, 14), (⟨"HedgeRecord$Reader", "takeSign", "(I)Z"⟩, 14), (⟨"HedgeRecord$Reader", "readNot", "(LHedgeRecord$Formula;I)Z"⟩, 14), (⟨"HedgeRecord$Reader", "joinedBy", "(I)I"⟩, 14), (⟨"HedgeRecord$Reader", "readFrost", "(LHedgeRecord$Hedge;)Z"⟩, 14)]
theorem lw_r2 : ∀ q ∈ lw_privs_2, lw_okq q := List.forall_mem_cons.mpr ⟨lw_p16, List.forall_mem_cons.mpr ⟨lw_p17, List.forall_mem_cons.mpr ⟨lw_p18, List.forall_mem_cons.mpr ⟨lw_p19, List.forall_mem_cons.mpr ⟨lw_p20, List.forall_mem_cons.mpr ⟨lw_p21, List.forall_mem_cons.mpr ⟨lw_p22, List.forall_mem_cons.mpr ⟨lw_p23, List.forall_mem_cons.mpr ⟨lw_p24, List.forall_mem_cons.mpr ⟨lw_p25, List.forall_mem_cons.mpr ⟨lw_p26, List.forall_mem_cons.mpr ⟨lw_p27, List.forall_mem_cons.mpr ⟨lw_p28, List.forall_mem_cons.mpr ⟨lw_p29, List.forall_mem_cons.mpr ⟨lw_p30, List.forall_mem_cons.mpr ⟨lw_p31, fun _ h => absurd h List.not_mem_nil⟩⟩⟩⟩⟩⟩⟩⟩⟩⟩⟩⟩⟩⟩⟩⟩
theorem lw_p32 : lw_okq (⟨"HedgeRecord$Reader", "readDraw", "(LHedgeRecord$Hedge;)Z"⟩, 14) := ⟨⟨by decide +kernel, by decide +kernel⟩, List.mem_of_getElem? (i := 31) (by decide +kernel), List.mem_of_getElem? (i := 725) (by decide +kernel), List.mem_of_getElem? (i := 726) (by decide +kernel)⟩
theorem lw_p33 : lw_okq (⟨"HedgeRecord", "isBill", "(I)Z"⟩, 16) := ⟨⟨by decide +kernel, by decide +kernel⟩, List.mem_of_getElem? (i := 23) (by decide +kernel), List.mem_of_getElem? (i := 749) (by decide +kernel), List.mem_of_getElem? (i := 750) (by decide +kernel)⟩
theorem lw_p34 : lw_okq (⟨"HedgeRecord", "standingNow", "()I"⟩, 16) := ⟨⟨by decide +kernel, by decide +kernel⟩, List.mem_of_getElem? (i := 23) (by decide +kernel), List.mem_of_getElem? (i := 753) (by decide +kernel), List.mem_of_getElem? (i := 754) (by decide +kernel)⟩
theorem lw_p35 : lw_okq (⟨"HedgeRecord", "isStake", "(I)Z"⟩, 16) := ⟨⟨by decide +kernel, by decide +kernel⟩, List.mem_of_getElem? (i := 23) (by decide +kernel), List.mem_of_getElem? (i := 774) (by decide +kernel), List.mem_of_getElem? (i := 775) (by decide +kernel)⟩
theorem lw_p36 : lw_okq (⟨"HedgeRecord", "isTopic", "(I)Z"⟩, 16) := ⟨⟨by decide +kernel, by decide +kernel⟩, List.mem_of_getElem? (i := 23) (by decide +kernel), List.mem_of_getElem? (i := 786) (by decide +kernel), List.mem_of_getElem? (i := 787) (by decide +kernel)⟩
theorem lw_p37 : lw_okq (⟨"HedgeRecord", "layBill", "(IIIIII)I"⟩, 16) := ⟨⟨by decide +kernel, by decide +kernel⟩, List.mem_of_getElem? (i := 23) (by decide +kernel), List.mem_of_getElem? (i := 813) (by decide +kernel), List.mem_of_getElem? (i := 814) (by decide +kernel)⟩
theorem lw_p38 : lw_okq (⟨"HedgeRecord", "isPlant", "(I)Z"⟩, 16) := ⟨⟨by decide +kernel, by decide +kernel⟩, List.mem_of_getElem? (i := 23) (by decide +kernel), List.mem_of_getElem? (i := 817) (by decide +kernel), List.mem_of_getElem? (i := 818) (by decide +kernel)⟩
theorem lw_p39 : lw_okq (⟨"HedgeRecord$Growth", "growAll", "(LHedgeRecord$Hedge;)V"⟩, 5) := ⟨⟨by decide +kernel, by decide +kernel⟩, List.mem_of_getElem? (i := 286) (by decide +kernel), List.mem_of_getElem? (i := 862) (by decide +kernel), List.mem_of_getElem? (i := 863) (by decide +kernel)⟩
theorem lw_p40 : lw_okq (⟨"HedgeRecord$Growth", "freeze", "(LHedgeRecord$Hedge;)V"⟩, 5) := ⟨⟨by decide +kernel, by decide +kernel⟩, List.mem_of_getElem? (i := 286) (by decide +kernel), List.mem_of_getElem? (i := 882) (by decide +kernel), List.mem_of_getElem? (i := 883) (by decide +kernel)⟩
theorem lw_p41 : lw_okq (⟨"HedgeRecord", "isAhead", "(I)Z"⟩, 16) := ⟨⟨by decide +kernel, by decide +kernel⟩, List.mem_of_getElem? (i := 23) (by decide +kernel), List.mem_of_getElem? (i := 910) (by decide +kernel), List.mem_of_getElem? (i := 911) (by decide +kernel)⟩
theorem lw_p42 : lw_okq (⟨"HedgeRecord", "lookAhead", "(I)V"⟩, 16) := ⟨⟨by decide +kernel, by decide +kernel⟩, List.mem_of_getElem? (i := 23) (by decide +kernel), List.mem_of_getElem? (i := 914) (by decide +kernel), List.mem_of_getElem? (i := 915) (by decide +kernel)⟩
theorem lw_p43 : lw_okq (⟨"HedgeRecord$Bills", "isClash", "(II)Z"⟩, 7) := ⟨⟨by decide +kernel, by decide +kernel⟩, List.mem_of_getElem? (i := 164) (by decide +kernel), List.mem_of_getElem? (i := 942) (by decide +kernel), List.mem_of_getElem? (i := 943) (by decide +kernel)⟩
theorem lw_p44 : lw_okq (⟨"HedgeRecord", "fewestWeeds", "()I"⟩, 16) := ⟨⟨by decide +kernel, by decide +kernel⟩, List.mem_of_getElem? (i := 23) (by decide +kernel), List.mem_of_getElem? (i := 950) (by decide +kernel), List.mem_of_getElem? (i := 951) (by decide +kernel)⟩
theorem lw_p45 : lw_okq (⟨"HedgeRecord", "isClear", "(I)Z"⟩, 16) := ⟨⟨by decide +kernel, by decide +kernel⟩, List.mem_of_getElem? (i := 23) (by decide +kernel), List.mem_of_getElem? (i := 954) (by decide +kernel), List.mem_of_getElem? (i := 955) (by decide +kernel)⟩
theorem lw_p46 : lw_okq (⟨"HedgeRecord$Trimming", "search", "(LHedgeRecord$Hedge;II)V"⟩, 8) := ⟨⟨by decide +kernel, by decide +kernel⟩, List.mem_of_getElem? (i := 400) (by decide +kernel), List.mem_of_getElem? (i := 991) (by decide +kernel), List.mem_of_getElem? (i := 992) (by decide +kernel)⟩
theorem lw_p47 : lw_okq (⟨"HedgeRecord$Trimming", "judge", "(II)V"⟩, 8) := ⟨⟨by decide +kernel, by decide +kernel⟩, List.mem_of_getElem? (i := 400) (by decide +kernel), List.mem_of_getElem? (i := 999) (by decide +kernel), List.mem_of_getElem? (i := 1000) (by decide +kernel)⟩
def lw_privs_3 : List (MethodName × Nat) := [(⟨"HedgeRecord$Reader", "readDraw", "(LHedgeRecord$Hedge;)Z"⟩, 14), (⟨"HedgeRecord", "isBill", "(I)Z"⟩, 16), (⟨"HedgeRecord", "standingNow", "()I"⟩, 16), (⟨"HedgeRecord", "isStake", "(I)Z"⟩, 16), (⟨"HedgeRecord", "isTopic", "(I)Z"⟩, 16), (⟨"HedgeRecord", "layBill", "(IIIIII)I"⟩, 16), (⟨"HedgeRecord", "isPlant", "(I)Z"⟩, 16), (⟨"HedgeRecord$Growth", "growAll", "(LHedgeRecord$Hedge;)V"⟩, 5), (⟨"HedgeRecord$Growth", "freeze", "(LHedgeRecord$Hedge;)V"⟩, 5), (⟨"HedgeRecord", "isAhead", "(I)Z"⟩, 16), (⟨"HedgeRecord", "lookAhead", "(I)V"⟩, 16), (⟨"HedgeRecord$Bills", "isClash", "(II)Z"⟩, 7), (⟨"HedgeRecord", "fewestWeeds", "()I"⟩, 16), (⟨"HedgeRecord", "isClear", "(I)Z"⟩, 16), (⟨"HedgeRecord$Trimming", "search", "(LHedgeRecord$Hedge;II)V"⟩, 8), (⟨"HedgeRecord$Trimming", "judge", "(II)V"⟩, 8)]
theorem lw_r3 : ∀ q ∈ lw_privs_3, lw_okq q := List.forall_mem_cons.mpr ⟨lw_p32, List.forall_mem_cons.mpr ⟨lw_p33, List.forall_mem_cons.mpr ⟨lw_p34, List.forall_mem_cons.mpr ⟨lw_p35, List.forall_mem_cons.mpr ⟨lw_p36, List.forall_mem_cons.mpr ⟨lw_p37, List.forall_mem_cons.mpr ⟨lw_p38, List.forall_mem_cons.mpr ⟨lw_p39, List.forall_mem_cons.mpr ⟨lw_p40, List.forall_mem_cons.mpr ⟨lw_p41, List.forall_mem_cons.mpr ⟨lw_p42, List.forall_mem_cons.mpr ⟨lw_p43, List.forall_mem_cons.mpr ⟨lw_p44, List.forall_mem_cons.mpr ⟨lw_p45, List.forall_mem_cons.mpr ⟨lw_p46, List.forall_mem_cons.mpr ⟨lw_p47, fun _ h => absurd h List.not_mem_nil⟩⟩⟩⟩⟩⟩⟩⟩⟩⟩⟩⟩⟩⟩⟩⟩
theorem lw_p48 : lw_okq (⟨"HedgeRecord$Trimming", "isBetter", "(II)Z"⟩, 8) := ⟨⟨by decide +kernel, by decide +kernel⟩, List.mem_of_getElem? (i := 400) (by decide +kernel), List.mem_of_getElem? (i := 1003) (by decide +kernel), List.mem_of_getElem? (i := 1004) (by decide +kernel)⟩
theorem lw_p49 : lw_okq (⟨"HedgeRecord", "layDown", "(I)V"⟩, 16) := ⟨⟨by decide +kernel, by decide +kernel⟩, List.mem_of_getElem? (i := 23) (by decide +kernel), List.mem_of_getElem? (i := 1015) (by decide +kernel), List.mem_of_getElem? (i := 1016) (by decide +kernel)⟩
theorem lw_p50 : lw_okq (⟨"HedgeRecord", "isParty", "(I)Z"⟩, 16) := ⟨⟨by decide +kernel, by decide +kernel⟩, List.mem_of_getElem? (i := 23) (by decide +kernel), List.mem_of_getElem? (i := 1023) (by decide +kernel), List.mem_of_getElem? (i := 1024) (by decide +kernel)⟩
theorem lw_p51 : lw_okq (⟨"HedgeRecord", "joyNow", "(I)I"⟩, 16) := ⟨⟨by decide +kernel, by decide +kernel⟩, List.mem_of_getElem? (i := 23) (by decide +kernel), List.mem_of_getElem? (i := 1027) (by decide +kernel), List.mem_of_getElem? (i := 1028) (by decide +kernel)⟩
theorem lw_p52 : lw_okq (⟨"HedgeRecord$Turns", "bestFrom", "(LHedgeRecord$Hedge;II)I"⟩, 1) := ⟨⟨by decide +kernel, by decide +kernel⟩, List.mem_of_getElem? (i := 433) (by decide +kernel), List.mem_of_getElem? (i := 1052) (by decide +kernel), List.mem_of_getElem? (i := 1053) (by decide +kernel)⟩
theorem lw_p53 : lw_okq (⟨"HedgeRecord$Turns", "joyAfter", "(LHedgeRecord$Hedge;III)I"⟩, 1) := ⟨⟨by decide +kernel, by decide +kernel⟩, List.mem_of_getElem? (i := 433) (by decide +kernel), List.mem_of_getElem? (i := 1056) (by decide +kernel), List.mem_of_getElem? (i := 1057) (by decide +kernel)⟩
theorem lw_p54 : lw_okq (⟨"HedgeRecord", "isOrdered", "(I)Z"⟩, 16) := ⟨⟨by decide +kernel, by decide +kernel⟩, List.mem_of_getElem? (i := 23) (by decide +kernel), List.mem_of_getElem? (i := 1076) (by decide +kernel), List.mem_of_getElem? (i := 1077) (by decide +kernel)⟩
theorem lw_p55 : lw_okq (⟨"HedgeRecord$Orders", "isSeated", "(I)Z"⟩, 5) := ⟨⟨by decide +kernel, by decide +kernel⟩, List.mem_of_getElem? (i := 377) (by decide +kernel), List.mem_of_getElem? (i := 1113) (by decide +kernel), List.mem_of_getElem? (i := 1114) (by decide +kernel)⟩
theorem lw_p56 : lw_okq (⟨"HedgeRecord$Orders", "seatFrom", "(II)V"⟩, 5) := ⟨⟨by decide +kernel, by decide +kernel⟩, List.mem_of_getElem? (i := 377) (by decide +kernel), List.mem_of_getElem? (i := 1117) (by decide +kernel), List.mem_of_getElem? (i := 1118) (by decide +kernel)⟩
theorem lw_p57 : lw_okq (⟨"HedgeRecord$Orders", "countSeats", "()V"⟩, 5) := ⟨⟨by decide +kernel, by decide +kernel⟩, List.mem_of_getElem? (i := 377) (by decide +kernel), List.mem_of_getElem? (i := 1121) (by decide +kernel), List.mem_of_getElem? (i := 1122) (by decide +kernel)⟩
theorem lw_p58 : lw_okq (⟨"HedgeRecord$Orders", "tallied", "(II)I"⟩, 5) := ⟨⟨by decide +kernel, by decide +kernel⟩, List.mem_of_getElem? (i := 377) (by decide +kernel), List.mem_of_getElem? (i := 1133) (by decide +kernel), List.mem_of_getElem? (i := 1134) (by decide +kernel)⟩
theorem lw_p59 : lw_okq (⟨"HedgeRecordModel", "four", "(I)V"⟩, 79) := ⟨⟨by decide +kernel, by decide +kernel⟩, List.mem_of_getElem? (i := 1191) (by decide +kernel), List.mem_of_getElem? (i := 1440) (by decide +kernel), List.mem_of_getElem? (i := 1441) (by decide +kernel)⟩
theorem lw_p60 : lw_okq (⟨"HedgeRecordModel", "readAll", "()V"⟩, 79) := ⟨⟨by decide +kernel, by decide +kernel⟩, List.mem_of_getElem? (i := 1191) (by decide +kernel), List.mem_of_getElem? (i := 1452) (by decide +kernel), List.mem_of_getElem? (i := 1453) (by decide +kernel)⟩
theorem lw_p61 : lw_okq (⟨"HedgeRecordModel", "token", "()V"⟩, 79) := ⟨⟨by decide +kernel, by decide +kernel⟩, List.mem_of_getElem? (i := 1191) (by decide +kernel), List.mem_of_getElem? (i := 1456) (by decide +kernel), List.mem_of_getElem? (i := 1457) (by decide +kernel)⟩
theorem lw_p62 : lw_okq (⟨"HedgeRecordModel", "here", "(I)I"⟩, 79) := ⟨⟨by decide +kernel, by decide +kernel⟩, List.mem_of_getElem? (i := 1191) (by decide +kernel), List.mem_of_getElem? (i := 1460) (by decide +kernel), List.mem_of_getElem? (i := 1461) (by decide +kernel)⟩
theorem lw_p63 : lw_okq (⟨"HedgeRecordModel", "readLine", "()V"⟩, 79) := ⟨⟨by decide +kernel, by decide +kernel⟩, List.mem_of_getElem? (i := 1191) (by decide +kernel), List.mem_of_getElem? (i := 1473) (by decide +kernel), List.mem_of_getElem? (i := 1474) (by decide +kernel)⟩
def lw_privs_4 : List (MethodName × Nat) := [(⟨"HedgeRecord$Trimming", "isBetter", "(II)Z"⟩, 8), (⟨"HedgeRecord", "layDown", "(I)V"⟩, 16), (⟨"HedgeRecord", "isParty", "(I)Z"⟩, 16), (⟨"HedgeRecord", "joyNow", "(I)I"⟩, 16), (⟨"HedgeRecord$Turns", "bestFrom", "(LHedgeRecord$Hedge;II)I"⟩, 1), (⟨"HedgeRecord$Turns", "joyAfter", "(LHedgeRecord$Hedge;III)I"⟩, 1), (⟨"HedgeRecord", "isOrdered", "(I)Z"⟩, 16), (⟨"HedgeRecord$Orders", "isSeated", "(I)Z"⟩, 5), (⟨"HedgeRecord$Orders", "seatFrom", "(II)V"⟩, 5), (⟨"HedgeRecord$Orders", "countSeats", "()V"⟩, 5), (⟨"HedgeRecord$Orders", "tallied", "(II)I"⟩, 5), (⟨"HedgeRecordModel", "four", "(I)V"⟩, 79), (⟨"HedgeRecordModel", "readAll", "()V"⟩, 79), (⟨"HedgeRecordModel", "token", "()V"⟩, 79), (⟨"HedgeRecordModel", "here", "(I)I"⟩, 79), (⟨"HedgeRecordModel", "readLine", "()V"⟩, 79)]
theorem lw_r4 : ∀ q ∈ lw_privs_4, lw_okq q := List.forall_mem_cons.mpr ⟨lw_p48, List.forall_mem_cons.mpr ⟨lw_p49, List.forall_mem_cons.mpr ⟨lw_p50, List.forall_mem_cons.mpr ⟨lw_p51, List.forall_mem_cons.mpr ⟨lw_p52, List.forall_mem_cons.mpr ⟨lw_p53, List.forall_mem_cons.mpr ⟨lw_p54, List.forall_mem_cons.mpr ⟨lw_p55, List.forall_mem_cons.mpr ⟨lw_p56, List.forall_mem_cons.mpr ⟨lw_p57, List.forall_mem_cons.mpr ⟨lw_p58, List.forall_mem_cons.mpr ⟨lw_p59, List.forall_mem_cons.mpr ⟨lw_p60, List.forall_mem_cons.mpr ⟨lw_p61, List.forall_mem_cons.mpr ⟨lw_p62, List.forall_mem_cons.mpr ⟨lw_p63, fun _ h => absurd h List.not_mem_nil⟩⟩⟩⟩⟩⟩⟩⟩⟩⟩⟩⟩⟩⟩⟩⟩
theorem lw_p64 : lw_okq (⟨"HedgeRecordModel", "isWord", "(J)Z"⟩, 79) := ⟨⟨by decide +kernel, by decide +kernel⟩, List.mem_of_getElem? (i := 1191) (by decide +kernel), List.mem_of_getElem? (i := 1478) (by decide +kernel), List.mem_of_getElem? (i := 1479) (by decide +kernel)⟩
theorem lw_p65 : lw_okq (⟨"HedgeRecordModel", "told", "(JII)I"⟩, 79) := ⟨⟨by decide +kernel, by decide +kernel⟩, List.mem_of_getElem? (i := 1191) (by decide +kernel), List.mem_of_getElem? (i := 1482) (by decide +kernel), List.mem_of_getElem? (i := 1483) (by decide +kernel)⟩
theorem lw_p66 : lw_okq (⟨"HedgeRecordModel", "want", "(J)V"⟩, 79) := ⟨⟨by decide +kernel, by decide +kernel⟩, List.mem_of_getElem? (i := 1191) (by decide +kernel), List.mem_of_getElem? (i := 1486) (by decide +kernel), List.mem_of_getElem? (i := 1487) (by decide +kernel)⟩
theorem lw_p67 : lw_okq (⟨"HedgeRecordModel", "wrong", "(I)V"⟩, 79) := ⟨⟨by decide +kernel, by decide +kernel⟩, List.mem_of_getElem? (i := 1191) (by decide +kernel), List.mem_of_getElem? (i := 1490) (by decide +kernel), List.mem_of_getElem? (i := 1491) (by decide +kernel)⟩
theorem lw_p68 : lw_okq (⟨"HedgeRecordModel", "toldNumber", "(II)I"⟩, 79) := ⟨⟨by decide +kernel, by decide +kernel⟩, List.mem_of_getElem? (i := 1191) (by decide +kernel), List.mem_of_getElem? (i := 1494) (by decide +kernel), List.mem_of_getElem? (i := 1495) (by decide +kernel)⟩
theorem lw_p69 : lw_okq (⟨"HedgeRecordModel", "readPlant", "()V"⟩, 79) := ⟨⟨by decide +kernel, by decide +kernel⟩, List.mem_of_getElem? (i := 1191) (by decide +kernel), List.mem_of_getElem? (i := 1499) (by decide +kernel), List.mem_of_getElem? (i := 1500) (by decide +kernel)⟩
theorem lw_p70 : lw_okq (⟨"HedgeRecordModel", "newName", "(II)V"⟩, 79) := ⟨⟨by decide +kernel, by decide +kernel⟩, List.mem_of_getElem? (i := 1191) (by decide +kernel), List.mem_of_getElem? (i := 1503) (by decide +kernel), List.mem_of_getElem? (i := 1504) (by decide +kernel)⟩
theorem lw_p71 : lw_okq (⟨"HedgeRecordModel", "isName", "()Z"⟩, 79) := ⟨⟨by decide +kernel, by decide +kernel⟩, List.mem_of_getElem? (i := 1191) (by decide +kernel), List.mem_of_getElem? (i := 1507) (by decide +kernel), List.mem_of_getElem? (i := 1508) (by decide +kernel)⟩
theorem lw_p72 : lw_okq (⟨"HedgeRecordModel", "isOwn", "()Z"⟩, 79) := ⟨⟨by decide +kernel, by decide +kernel⟩, List.mem_of_getElem? (i := 1191) (by decide +kernel), List.mem_of_getElem? (i := 1511) (by decide +kernel), List.mem_of_getElem? (i := 1512) (by decide +kernel)⟩
theorem lw_p73 : lw_okq (⟨"HedgeRecordModel", "find", "(II)I"⟩, 79) := ⟨⟨by decide +kernel, by decide +kernel⟩, List.mem_of_getElem? (i := 1191) (by decide +kernel), List.mem_of_getElem? (i := 1537) (by decide +kernel), List.mem_of_getElem? (i := 1538) (by decide +kernel)⟩
theorem lw_p74 : lw_okq (⟨"HedgeRecordModel", "readTopic", "()V"⟩, 79) := ⟨⟨by decide +kernel, by decide +kernel⟩, List.mem_of_getElem? (i := 1191) (by decide +kernel), List.mem_of_getElem? (i := 1541) (by decide +kernel), List.mem_of_getElem? (i := 1542) (by decide +kernel)⟩
theorem lw_p75 : lw_okq (⟨"HedgeRecordModel", "readBill", "()V"⟩, 79) := ⟨⟨by decide +kernel, by decide +kernel⟩, List.mem_of_getElem? (i := 1191) (by decide +kernel), List.mem_of_getElem? (i := 1545) (by decide +kernel), List.mem_of_getElem? (i := 1546) (by decide +kernel)⟩
theorem lw_p76 : lw_okq (⟨"HedgeRecordModel", "oldName", "(II)I"⟩, 79) := ⟨⟨by decide +kernel, by decide +kernel⟩, List.mem_of_getElem? (i := 1191) (by decide +kernel), List.mem_of_getElem? (i := 1549) (by decide +kernel), List.mem_of_getElem? (i := 1550) (by decide +kernel)⟩
theorem lw_p77 : lw_okq (⟨"HedgeRecordModel", "nameBehind", "(JII)I"⟩, 79) := ⟨⟨by decide +kernel, by decide +kernel⟩, List.mem_of_getElem? (i := 1191) (by decide +kernel), List.mem_of_getElem? (i := 1553) (by decide +kernel), List.mem_of_getElem? (i := 1554) (by decide +kernel)⟩
theorem lw_p78 : lw_okq (⟨"HedgeRecordModel", "toldValue", "(I)I"⟩, 79) := ⟨⟨by decide +kernel, by decide +kernel⟩, List.mem_of_getElem? (i := 1191) (by decide +kernel), List.mem_of_getElem? (i := 1557) (by decide +kernel), List.mem_of_getElem? (i := 1558) (by decide +kernel)⟩
theorem lw_p79 : lw_okq (⟨"HedgeRecordModel", "readParty", "()V"⟩, 79) := ⟨⟨by decide +kernel, by decide +kernel⟩, List.mem_of_getElem? (i := 1191) (by decide +kernel), List.mem_of_getElem? (i := 1561) (by decide +kernel), List.mem_of_getElem? (i := 1562) (by decide +kernel)⟩
def lw_privs_5 : List (MethodName × Nat) := [(⟨"HedgeRecordModel", "isWord", "(J)Z"⟩, 79), (⟨"HedgeRecordModel", "told", "(JII)I"⟩, 79), (⟨"HedgeRecordModel", "want", "(J)V"⟩, 79), (⟨"HedgeRecordModel", "wrong", "(I)V"⟩, 79), (⟨"HedgeRecordModel", "toldNumber", "(II)I"⟩, 79), (⟨"HedgeRecordModel", "readPlant", "()V"⟩, 79), (⟨"HedgeRecordModel", "newName", "(II)V"⟩, 79), (⟨"HedgeRecordModel", "isName", "()Z"⟩, 79), (⟨"HedgeRecordModel", "isOwn", "()Z"⟩, 79), (⟨"HedgeRecordModel", "find", "(II)I"⟩, 79), (⟨"HedgeRecordModel", "readTopic", "()V"⟩, 79), (⟨"HedgeRecordModel", "readBill", "()V"⟩, 79), (⟨"HedgeRecordModel", "oldName", "(II)I"⟩, 79), (⟨"HedgeRecordModel", "nameBehind", "(JII)I"⟩, 79), (⟨"HedgeRecordModel", "toldValue", "(I)I"⟩, 79), (⟨"HedgeRecordModel", "readParty", "()V"⟩, 79)]
theorem lw_r5 : ∀ q ∈ lw_privs_5, lw_okq q := List.forall_mem_cons.mpr ⟨lw_p64, List.forall_mem_cons.mpr ⟨lw_p65, List.forall_mem_cons.mpr ⟨lw_p66, List.forall_mem_cons.mpr ⟨lw_p67, List.forall_mem_cons.mpr ⟨lw_p68, List.forall_mem_cons.mpr ⟨lw_p69, List.forall_mem_cons.mpr ⟨lw_p70, List.forall_mem_cons.mpr ⟨lw_p71, List.forall_mem_cons.mpr ⟨lw_p72, List.forall_mem_cons.mpr ⟨lw_p73, List.forall_mem_cons.mpr ⟨lw_p74, List.forall_mem_cons.mpr ⟨lw_p75, List.forall_mem_cons.mpr ⟨lw_p76, List.forall_mem_cons.mpr ⟨lw_p77, List.forall_mem_cons.mpr ⟨lw_p78, List.forall_mem_cons.mpr ⟨lw_p79, fun _ h => absurd h List.not_mem_nil⟩⟩⟩⟩⟩⟩⟩⟩⟩⟩⟩⟩⟩⟩⟩⟩
theorem lw_p80 : lw_okq (⟨"HedgeRecordModel", "readWants", "()V"⟩, 79) := ⟨⟨by decide +kernel, by decide +kernel⟩, List.mem_of_getElem? (i := 1191) (by decide +kernel), List.mem_of_getElem? (i := 1565) (by decide +kernel), List.mem_of_getElem? (i := 1566) (by decide +kernel)⟩
theorem lw_p81 : lw_okq (⟨"HedgeRecordModel", "readGrow", "()V"⟩, 79) := ⟨⟨by decide +kernel, by decide +kernel⟩, List.mem_of_getElem? (i := 1191) (by decide +kernel), List.mem_of_getElem? (i := 1569) (by decide +kernel), List.mem_of_getElem? (i := 1570) (by decide +kernel)⟩
theorem lw_p82 : lw_okq (⟨"HedgeRecordModel", "unit", "()V"⟩, 79) := ⟨⟨by decide +kernel, by decide +kernel⟩, List.mem_of_getElem? (i := 1191) (by decide +kernel), List.mem_of_getElem? (i := 1573) (by decide +kernel), List.mem_of_getElem? (i := 1574) (by decide +kernel)⟩
theorem lw_p83 : lw_okq (⟨"HedgeRecordModel", "mayNot", "()Z"⟩, 79) := ⟨⟨by decide +kernel, by decide +kernel⟩, List.mem_of_getElem? (i := 1191) (by decide +kernel), List.mem_of_getElem? (i := 1577) (by decide +kernel), List.mem_of_getElem? (i := 1578) (by decide +kernel)⟩
theorem lw_p84 : lw_okq (⟨"HedgeRecordModel", "openUp", "(I)V"⟩, 79) := ⟨⟨by decide +kernel, by decide +kernel⟩, List.mem_of_getElem? (i := 1191) (by decide +kernel), List.mem_of_getElem? (i := 1584) (by decide +kernel), List.mem_of_getElem? (i := 1585) (by decide +kernel)⟩
theorem lw_p85 : lw_okq (⟨"HedgeRecordModel", "isFull", "()Z"⟩, 79) := ⟨⟨by decide +kernel, by decide +kernel⟩, List.mem_of_getElem? (i := 1191) (by decide +kernel), List.mem_of_getElem? (i := 1588) (by decide +kernel), List.mem_of_getElem? (i := 1589) (by decide +kernel)⟩
theorem lw_p86 : lw_okq (⟨"HedgeRecordModel", "countUnit", "()V"⟩, 79) := ⟨⟨by decide +kernel, by decide +kernel⟩, List.mem_of_getElem? (i := 1191) (by decide +kernel), List.mem_of_getElem? (i := 1592) (by decide +kernel), List.mem_of_getElem? (i := 1593) (by decide +kernel)⟩
theorem lw_p87 : lw_okq (⟨"HedgeRecordModel", "asked", "()I"⟩, 79) := ⟨⟨by decide +kernel, by decide +kernel⟩, List.mem_of_getElem? (i := 1191) (by decide +kernel), List.mem_of_getElem? (i := 1596) (by decide +kernel), List.mem_of_getElem? (i := 1597) (by decide +kernel)⟩
theorem lw_p88 : lw_okq (⟨"HedgeRecordModel", "add", "(II)V"⟩, 79) := ⟨⟨by decide +kernel, by decide +kernel⟩, List.mem_of_getElem? (i := 1191) (by decide +kernel), List.mem_of_getElem? (i := 1600) (by decide +kernel), List.mem_of_getElem? (i := 1601) (by decide +kernel)⟩
theorem lw_p89 : lw_okq (⟨"HedgeRecordModel", "sign", "()I"⟩, 79) := ⟨⟨by decide +kernel, by decide +kernel⟩, List.mem_of_getElem? (i := 1191) (by decide +kernel), List.mem_of_getElem? (i := 1604) (by decide +kernel), List.mem_of_getElem? (i := 1605) (by decide +kernel)⟩
theorem lw_p90 : lw_okq (⟨"HedgeRecordModel", "hasBracket", "()Z"⟩, 79) := ⟨⟨by decide +kernel, by decide +kernel⟩, List.mem_of_getElem? (i := 1191) (by decide +kernel), List.mem_of_getElem? (i := 1608) (by decide +kernel), List.mem_of_getElem? (i := 1609) (by decide +kernel)⟩
theorem lw_p91 : lw_okq (⟨"HedgeRecordModel", "close", "(I)V"⟩, 79) := ⟨⟨by decide +kernel, by decide +kernel⟩, List.mem_of_getElem? (i := 1191) (by decide +kernel), List.mem_of_getElem? (i := 1612) (by decide +kernel), List.mem_of_getElem? (i := 1613) (by decide +kernel)⟩
theorem lw_p92 : lw_okq (⟨"HedgeRecordModel", "hasRelation", "()Z"⟩, 79) := ⟨⟨by decide +kernel, by decide +kernel⟩, List.mem_of_getElem? (i := 1191) (by decide +kernel), List.mem_of_getElem? (i := 1616) (by decide +kernel), List.mem_of_getElem? (i := 1617) (by decide +kernel)⟩
theorem lw_p93 : lw_okq (⟨"HedgeRecordModel", "isBill", "(I)Z"⟩, 79) := ⟨⟨by decide +kernel, by decide +kernel⟩, List.mem_of_getElem? (i := 1191) (by decide +kernel), List.mem_of_getElem? (i := 1628) (by decide +kernel), List.mem_of_getElem? (i := 1629) (by decide +kernel)⟩
theorem lw_p94 : lw_okq (⟨"HedgeRecordModel", "load", "()V"⟩, 79) := ⟨⟨by decide +kernel, by decide +kernel⟩, List.mem_of_getElem? (i := 1191) (by decide +kernel), List.mem_of_getElem? (i := 1635) (by decide +kernel), List.mem_of_getElem? (i := 1636) (by decide +kernel)⟩
theorem lw_p95 : lw_okq (⟨"HedgeRecordModel", "of", "(II)I"⟩, 79) := ⟨⟨by decide +kernel, by decide +kernel⟩, List.mem_of_getElem? (i := 1191) (by decide +kernel), List.mem_of_getElem? (i := 1639) (by decide +kernel), List.mem_of_getElem? (i := 1640) (by decide +kernel)⟩
def lw_privs_6 : List (MethodName × Nat) := [(⟨"HedgeRecordModel", "readWants", "()V"⟩, 79), (⟨"HedgeRecordModel", "readGrow", "()V"⟩, 79), (⟨"HedgeRecordModel", "unit", "()V"⟩, 79), (⟨"HedgeRecordModel", "mayNot", "()Z"⟩, 79), (⟨"HedgeRecordModel", "openUp", "(I)V"⟩, 79), (⟨"HedgeRecordModel", "isFull", "()Z"⟩, 79), (⟨"HedgeRecordModel", "countUnit", "()V"⟩, 79), (⟨"HedgeRecordModel", "asked", "()I"⟩, 79), (⟨"HedgeRecordModel", "add", "(II)V"⟩, 79), (⟨"HedgeRecordModel", "sign", "()I"⟩, 79), (⟨"HedgeRecordModel", "hasBracket", "()Z"⟩, 79), (⟨"HedgeRecordModel", "close", "(I)V"⟩, 79), (⟨"HedgeRecordModel", "hasRelation", "()Z"⟩, 79), (⟨"HedgeRecordModel", "isBill", "(I)Z"⟩, 79), (⟨"HedgeRecordModel", "load", "()V"⟩, 79), (⟨"HedgeRecordModel", "of", "(II)I"⟩, 79)]
theorem lw_r6 : ∀ q ∈ lw_privs_6, lw_okq q := List.forall_mem_cons.mpr ⟨lw_p80, List.forall_mem_cons.mpr ⟨lw_p81, List.forall_mem_cons.mpr ⟨lw_p82, List.forall_mem_cons.mpr ⟨lw_p83, List.forall_mem_cons.mpr ⟨lw_p84, List.forall_mem_cons.mpr ⟨lw_p85, List.forall_mem_cons.mpr ⟨lw_p86, List.forall_mem_cons.mpr ⟨lw_p87, List.forall_mem_cons.mpr ⟨lw_p88, List.forall_mem_cons.mpr ⟨lw_p89, List.forall_mem_cons.mpr ⟨lw_p90, List.forall_mem_cons.mpr ⟨lw_p91, List.forall_mem_cons.mpr ⟨lw_p92, List.forall_mem_cons.mpr ⟨lw_p93, List.forall_mem_cons.mpr ⟨lw_p94, List.forall_mem_cons.mpr ⟨lw_p95, fun _ h => absurd h List.not_mem_nil⟩⟩⟩⟩⟩⟩⟩⟩⟩⟩⟩⟩⟩⟩⟩⟩
theorem lw_p96 : lw_okq (⟨"HedgeRecordModel", "standing", "()I"⟩, 79) := ⟨⟨by decide +kernel, by decide +kernel⟩, List.mem_of_getElem? (i := 1191) (by decide +kernel), List.mem_of_getElem? (i := 1643) (by decide +kernel), List.mem_of_getElem? (i := 1644) (by decide +kernel)⟩
theorem lw_p97 : lw_okq (⟨"HedgeRecordModel", "livingSet", "()I"⟩, 79) := ⟨⟨by decide +kernel, by decide +kernel⟩, List.mem_of_getElem? (i := 1191) (by decide +kernel), List.mem_of_getElem? (i := 1647) (by decide +kernel), List.mem_of_getElem? (i := 1648) (by decide +kernel)⟩
theorem lw_p98 : lw_okq (⟨"HedgeRecordModel", "bills", "()I"⟩, 79) := ⟨⟨by decide +kernel, by decide +kernel⟩, List.mem_of_getElem? (i := 1191) (by decide +kernel), List.mem_of_getElem? (i := 1651) (by decide +kernel), List.mem_of_getElem? (i := 1652) (by decide +kernel)⟩
theorem lw_p99 : lw_okq (⟨"HedgeRecordModel", "lives", "(I)Z"⟩, 79) := ⟨⟨by decide +kernel, by decide +kernel⟩, List.mem_of_getElem? (i := 1191) (by decide +kernel), List.mem_of_getElem? (i := 1655) (by decide +kernel), List.mem_of_getElem? (i := 1656) (by decide +kernel)⟩
theorem lw_p100 : lw_okq (⟨"HedgeRecordModel", "repealedSet", "()I"⟩, 79) := ⟨⟨by decide +kernel, by decide +kernel⟩, List.mem_of_getElem? (i := 1191) (by decide +kernel), List.mem_of_getElem? (i := 1662) (by decide +kernel), List.mem_of_getElem? (i := 1663) (by decide +kernel)⟩
theorem lw_p101 : lw_okq (⟨"HedgeRecordModel", "isStake", "(I)Z"⟩, 79) := ⟨⟨by decide +kernel, by decide +kernel⟩, List.mem_of_getElem? (i := 1191) (by decide +kernel), List.mem_of_getElem? (i := 1670) (by decide +kernel), List.mem_of_getElem? (i := 1671) (by decide +kernel)⟩
theorem lw_p102 : lw_okq (⟨"HedgeRecordModel", "billsAt", "(I)I"⟩, 79) := ⟨⟨by decide +kernel, by decide +kernel⟩, List.mem_of_getElem? (i := 1191) (by decide +kernel), List.mem_of_getElem? (i := 1674) (by decide +kernel), List.mem_of_getElem? (i := 1675) (by decide +kernel)⟩
theorem lw_p103 : lw_okq (⟨"HedgeRecordModel", "isTopic", "(I)Z"⟩, 79) := ⟨⟨by decide +kernel, by decide +kernel⟩, List.mem_of_getElem? (i := 1191) (by decide +kernel), List.mem_of_getElem? (i := 1682) (by decide +kernel), List.mem_of_getElem? (i := 1683) (by decide +kernel)⟩
theorem lw_p104 : lw_okq (⟨"HedgeRecordModel", "lawOf", "(I)I"⟩, 79) := ⟨⟨by decide +kernel, by decide +kernel⟩, List.mem_of_getElem? (i := 1191) (by decide +kernel), List.mem_of_getElem? (i := 1686) (by decide +kernel), List.mem_of_getElem? (i := 1687) (by decide +kernel)⟩
theorem lw_p105 : lw_okq (⟨"HedgeRecordModel", "kill", "(I)V"⟩, 79) := ⟨⟨by decide +kernel, by decide +kernel⟩, List.mem_of_getElem? (i := 1191) (by decide +kernel), List.mem_of_getElem? (i := 1699) (by decide +kernel), List.mem_of_getElem? (i := 1700) (by decide +kernel)⟩
theorem lw_p106 : lw_okq (⟨"HedgeRecordModel", "canPut", "(II)Z"⟩, 79) := ⟨⟨by decide +kernel, by decide +kernel⟩, List.mem_of_getElem? (i := 1191) (by decide +kernel), List.mem_of_getElem? (i := 1707) (by decide +kernel), List.mem_of_getElem? (i := 1708) (by decide +kernel)⟩
theorem lw_p107 : lw_okq (⟨"HedgeRecordModel", "isPlant", "(I)Z"⟩, 79) := ⟨⟨by decide +kernel, by decide +kernel⟩, List.mem_of_getElem? (i := 1191) (by decide +kernel), List.mem_of_getElem? (i := 1711) (by decide +kernel), List.mem_of_getElem? (i := 1712) (by decide +kernel)⟩
theorem lw_p108 : lw_okq (⟨"HedgeRecordModel", "act", "()V"⟩, 79) := ⟨⟨by decide +kernel, by decide +kernel⟩, List.mem_of_getElem? (i := 1191) (by decide +kernel), List.mem_of_getElem? (i := 1715) (by decide +kernel), List.mem_of_getElem? (i := 1716) (by decide +kernel)⟩
theorem lw_p109 : lw_okq (⟨"HedgeRecordModel", "put", "(IIIIII)V"⟩, 79) := ⟨⟨by decide +kernel, by decide +kernel⟩, List.mem_of_getElem? (i := 1191) (by decide +kernel), List.mem_of_getElem? (i := 1719) (by decide +kernel), List.mem_of_getElem? (i := 1720) (by decide +kernel)⟩
theorem lw_p110 : lw_okq (⟨"HedgeRecordModel", "keep", "()V"⟩, 79) := ⟨⟨by decide +kernel, by decide +kernel⟩, List.mem_of_getElem? (i := 1191) (by decide +kernel), List.mem_of_getElem? (i := 1723) (by decide +kernel), List.mem_of_getElem? (i := 1724) (by decide +kernel)⟩
theorem lw_p111 : lw_okq (⟨"HedgeRecordModel", "trimHere", "(II)V"⟩, 79) := ⟨⟨by decide +kernel, by decide +kernel⟩, List.mem_of_getElem? (i := 1191) (by decide +kernel), List.mem_of_getElem? (i := 1740) (by decide +kernel), List.mem_of_getElem? (i := 1741) (by decide +kernel)⟩
def lw_privs_7 : List (MethodName × Nat) := [(⟨"HedgeRecordModel", "standing", "()I"⟩, 79), (⟨"HedgeRecordModel", "livingSet", "()I"⟩, 79), (⟨"HedgeRecordModel", "bills", "()I"⟩, 79), (⟨"HedgeRecordModel", "lives", "(I)Z"⟩, 79), (⟨"HedgeRecordModel", "repealedSet", "()I"⟩, 79), (⟨"HedgeRecordModel", "isStake", "(I)Z"⟩, 79), (⟨"HedgeRecordModel", "billsAt", "(I)I"⟩, 79), (⟨"HedgeRecordModel", "isTopic", "(I)Z"⟩, 79), (⟨"HedgeRecordModel", "lawOf", "(I)I"⟩, 79), (⟨"HedgeRecordModel", "kill", "(I)V"⟩, 79), (⟨"HedgeRecordModel", "canPut", "(II)Z"⟩, 79), (⟨"HedgeRecordModel", "isPlant", "(I)Z"⟩, 79), (⟨"HedgeRecordModel", "act", "()V"⟩, 79), (⟨"HedgeRecordModel", "put", "(IIIIII)V"⟩, 79), (⟨"HedgeRecordModel", "keep", "()V"⟩, 79), (⟨"HedgeRecordModel", "trimHere", "(II)V"⟩, 79)]
theorem lw_r7 : ∀ q ∈ lw_privs_7, lw_okq q := List.forall_mem_cons.mpr ⟨lw_p96, List.forall_mem_cons.mpr ⟨lw_p97, List.forall_mem_cons.mpr ⟨lw_p98, List.forall_mem_cons.mpr ⟨lw_p99, List.forall_mem_cons.mpr ⟨lw_p100, List.forall_mem_cons.mpr ⟨lw_p101, List.forall_mem_cons.mpr ⟨lw_p102, List.forall_mem_cons.mpr ⟨lw_p103, List.forall_mem_cons.mpr ⟨lw_p104, List.forall_mem_cons.mpr ⟨lw_p105, List.forall_mem_cons.mpr ⟨lw_p106, List.forall_mem_cons.mpr ⟨lw_p107, List.forall_mem_cons.mpr ⟨lw_p108, List.forall_mem_cons.mpr ⟨lw_p109, List.forall_mem_cons.mpr ⟨lw_p110, List.forall_mem_cons.mpr ⟨lw_p111, fun _ h => absurd h List.not_mem_nil⟩⟩⟩⟩⟩⟩⟩⟩⟩⟩⟩⟩⟩⟩⟩⟩
theorem lw_p112 : lw_okq (⟨"HedgeRecordModel", "lessen", "(II)V"⟩, 79) := ⟨⟨by decide +kernel, by decide +kernel⟩, List.mem_of_getElem? (i := 1191) (by decide +kernel), List.mem_of_getElem? (i := 1744) (by decide +kernel), List.mem_of_getElem? (i := 1745) (by decide +kernel)⟩
theorem lw_p113 : lw_okq (⟨"HedgeRecordModel", "goYear", "()I"⟩, 79) := ⟨⟨by decide +kernel, by decide +kernel⟩, List.mem_of_getElem? (i := 1191) (by decide +kernel), List.mem_of_getElem? (i := 1755) (by decide +kernel), List.mem_of_getElem? (i := 1756) (by decide +kernel)⟩
theorem lw_p114 : lw_okq (⟨"HedgeRecordModel", "near", "(I)I"⟩, 79) := ⟨⟨by decide +kernel, by decide +kernel⟩, List.mem_of_getElem? (i := 1191) (by decide +kernel), List.mem_of_getElem? (i := 1759) (by decide +kernel), List.mem_of_getElem? (i := 1760) (by decide +kernel)⟩
theorem lw_p115 : lw_okq (⟨"HedgeRecordModel", "grown", "()I"⟩, 79) := ⟨⟨by decide +kernel, by decide +kernel⟩, List.mem_of_getElem? (i := 1191) (by decide +kernel), List.mem_of_getElem? (i := 1766) (by decide +kernel), List.mem_of_getElem? (i := 1767) (by decide +kernel)⟩
theorem lw_p116 : lw_okq (⟨"HedgeRecordModel", "exchange", "(I)V"⟩, 79) := ⟨⟨by decide +kernel, by decide +kernel⟩, List.mem_of_getElem? (i := 1191) (by decide +kernel), List.mem_of_getElem? (i := 1777) (by decide +kernel), List.mem_of_getElem? (i := 1778) (by decide +kernel)⟩
theorem lw_p117 : lw_okq (⟨"HedgeRecordModel", "goFar", "(I)V"⟩, 79) := ⟨⟨by decide +kernel, by decide +kernel⟩, List.mem_of_getElem? (i := 1191) (by decide +kernel), List.mem_of_getElem? (i := 1789) (by decide +kernel), List.mem_of_getElem? (i := 1790) (by decide +kernel)⟩
theorem lw_p118 : lw_okq (⟨"HedgeRecordModel", "clashesHere", "()I"⟩, 79) := ⟨⟨by decide +kernel, by decide +kernel⟩, List.mem_of_getElem? (i := 1191) (by decide +kernel), List.mem_of_getElem? (i := 1810) (by decide +kernel), List.mem_of_getElem? (i := 1811) (by decide +kernel)⟩
theorem lw_p119 : lw_okq (⟨"HedgeRecordModel", "isPlain", "(II)Z"⟩, 79) := ⟨⟨by decide +kernel, by decide +kernel⟩, List.mem_of_getElem? (i := 1191) (by decide +kernel), List.mem_of_getElem? (i := 1814) (by decide +kernel), List.mem_of_getElem? (i := 1815) (by decide +kernel)⟩
theorem lw_p120 : lw_okq (⟨"HedgeRecordModel", "gapSet", "()I"⟩, 79) := ⟨⟨by decide +kernel, by decide +kernel⟩, List.mem_of_getElem? (i := 1191) (by decide +kernel), List.mem_of_getElem? (i := 1830) (by decide +kernel), List.mem_of_getElem? (i := 1831) (by decide +kernel)⟩
theorem lw_p121 : lw_okq (⟨"HedgeRecordModel", "layCuts", "(II)V"⟩, 79) := ⟨⟨by decide +kernel, by decide +kernel⟩, List.mem_of_getElem? (i := 1191) (by decide +kernel), List.mem_of_getElem? (i := 1851) (by decide +kernel), List.mem_of_getElem? (i := 1852) (by decide +kernel)⟩
theorem lw_p122 : lw_okq (⟨"HedgeRecordModel", "standBy", "(II)I"⟩, 79) := ⟨⟨by decide +kernel, by decide +kernel⟩, List.mem_of_getElem? (i := 1191) (by decide +kernel), List.mem_of_getElem? (i := 1855) (by decide +kernel), List.mem_of_getElem? (i := 1856) (by decide +kernel)⟩
theorem lw_p123 : lw_okq (⟨"HedgeRecordModel", "cutsOf", "(I)I"⟩, 79) := ⟨⟨by decide +kernel, by decide +kernel⟩, List.mem_of_getElem? (i := 1191) (by decide +kernel), List.mem_of_getElem? (i := 1859) (by decide +kernel), List.mem_of_getElem? (i := 1860) (by decide +kernel)⟩
theorem lw_p124 : lw_okq (⟨"HedgeRecordModel", "isParty", "(I)Z"⟩, 79) := ⟨⟨by decide +kernel, by decide +kernel⟩, List.mem_of_getElem? (i := 1191) (by decide +kernel), List.mem_of_getElem? (i := 1867) (by decide +kernel), List.mem_of_getElem? (i := 1868) (by decide +kernel)⟩
theorem lw_p125 : lw_okq (⟨"HedgeRecordModel", "joyOf", "(I)I"⟩, 79) := ⟨⟨by decide +kernel, by decide +kernel⟩, List.mem_of_getElem? (i := 1191) (by decide +kernel), List.mem_of_getElem? (i := 1871) (by decide +kernel), List.mem_of_getElem? (i := 1872) (by decide +kernel)⟩
theorem lw_p126 : lw_okq (⟨"HedgeRecordModel", "canPull", "(II)Z"⟩, 79) := ⟨⟨by decide +kernel, by decide +kernel⟩, List.mem_of_getElem? (i := 1191) (by decide +kernel), List.mem_of_getElem? (i := 1884) (by decide +kernel), List.mem_of_getElem? (i := 1885) (by decide +kernel)⟩
theorem lw_p127 : lw_okq (⟨"HedgeRecordModel", "laySecond", "()V"⟩, 79) := ⟨⟨by decide +kernel, by decide +kernel⟩, List.mem_of_getElem? (i := 1191) (by decide +kernel), List.mem_of_getElem? (i := 1888) (by decide +kernel), List.mem_of_getElem? (i := 1889) (by decide +kernel)⟩
def lw_privs_8 : List (MethodName × Nat) := [(⟨"HedgeRecordModel", "lessen", "(II)V"⟩, 79), (⟨"HedgeRecordModel", "goYear", "()I"⟩, 79), (⟨"HedgeRecordModel", "near", "(I)I"⟩, 79), (⟨"HedgeRecordModel", "grown", "()I"⟩, 79), (⟨"HedgeRecordModel", "exchange", "(I)V"⟩, 79), (⟨"HedgeRecordModel", "goFar", "(I)V"⟩, 79), (⟨"HedgeRecordModel", "clashesHere", "()I"⟩, 79), (⟨"HedgeRecordModel", "isPlain", "(II)Z"⟩, 79), (⟨"HedgeRecordModel", "gapSet", "()I"⟩, 79), (⟨"HedgeRecordModel", "layCuts", "(II)V"⟩, 79), (⟨"HedgeRecordModel", "standBy", "(II)I"⟩, 79), (⟨"HedgeRecordModel", "cutsOf", "(I)I"⟩, 79), (⟨"HedgeRecordModel", "isParty", "(I)Z"⟩, 79), (⟨"HedgeRecordModel", "joyOf", "(I)I"⟩, 79), (⟨"HedgeRecordModel", "canPull", "(II)Z"⟩, 79), (⟨"HedgeRecordModel", "laySecond", "()V"⟩, 79)]
theorem lw_r8 : ∀ q ∈ lw_privs_8, lw_okq q := List.forall_mem_cons.mpr ⟨lw_p112, List.forall_mem_cons.mpr ⟨lw_p113, List.forall_mem_cons.mpr ⟨lw_p114, List.forall_mem_cons.mpr ⟨lw_p115, List.forall_mem_cons.mpr ⟨lw_p116, List.forall_mem_cons.mpr ⟨lw_p117, List.forall_mem_cons.mpr ⟨lw_p118, List.forall_mem_cons.mpr ⟨lw_p119, List.forall_mem_cons.mpr ⟨lw_p120, List.forall_mem_cons.mpr ⟨lw_p121, List.forall_mem_cons.mpr ⟨lw_p122, List.forall_mem_cons.mpr ⟨lw_p123, List.forall_mem_cons.mpr ⟨lw_p124, List.forall_mem_cons.mpr ⟨lw_p125, List.forall_mem_cons.mpr ⟨lw_p126, List.forall_mem_cons.mpr ⟨lw_p127, fun _ h => absurd h List.not_mem_nil⟩⟩⟩⟩⟩⟩⟩⟩⟩⟩⟩⟩⟩⟩⟩⟩
theorem lw_p128 : lw_okq (⟨"HedgeRecordModel", "layLast", "()V"⟩, 79) := ⟨⟨by decide +kernel, by decide +kernel⟩, List.mem_of_getElem? (i := 1191) (by decide +kernel), List.mem_of_getElem? (i := 1892) (by decide +kernel), List.mem_of_getElem? (i := 1893) (by decide +kernel)⟩
theorem lw_p129 : lw_okq (⟨"HedgeRecordModel", "layThird", "()V"⟩, 79) := ⟨⟨by decide +kernel, by decide +kernel⟩, List.mem_of_getElem? (i := 1191) (by decide +kernel), List.mem_of_getElem? (i := 1896) (by decide +kernel), List.mem_of_getElem? (i := 1897) (by decide +kernel)⟩
theorem lw_p130 : lw_okq (⟨"HedgeRecordModel", "layEnd", "()Z"⟩, 79) := ⟨⟨by decide +kernel, by decide +kernel⟩, List.mem_of_getElem? (i := 1191) (by decide +kernel), List.mem_of_getElem? (i := 1900) (by decide +kernel), List.mem_of_getElem? (i := 1901) (by decide +kernel)⟩
theorem lw_p131 : lw_okq (⟨"HedgeRecordModel", "isFirst", "(I)Z"⟩, 79) := ⟨⟨by decide +kernel, by decide +kernel⟩, List.mem_of_getElem? (i := 1191) (by decide +kernel), List.mem_of_getElem? (i := 1912) (by decide +kernel), List.mem_of_getElem? (i := 1913) (by decide +kernel)⟩
theorem lw_p132 : lw_okq (⟨"HedgeRecordModel", "firstBills", "()I"⟩, 79) := ⟨⟨by decide +kernel, by decide +kernel⟩, List.mem_of_getElem? (i := 1191) (by decide +kernel), List.mem_of_getElem? (i := 1916) (by decide +kernel), List.mem_of_getElem? (i := 1917) (by decide +kernel)⟩
theorem lw_p133 : lw_okq (⟨"HedgeRecordModel", "layOrders", "(I)I"⟩, 79) := ⟨⟨by decide +kernel, by decide +kernel⟩, List.mem_of_getElem? (i := 1191) (by decide +kernel), List.mem_of_getElem? (i := 1933) (by decide +kernel), List.mem_of_getElem? (i := 1934) (by decide +kernel)⟩
theorem lw_p134 : lw_okq (⟨"HedgeRecordModel", "isOrder", "(II)Z"⟩, 79) := ⟨⟨by decide +kernel, by decide +kernel⟩, List.mem_of_getElem? (i := 1191) (by decide +kernel), List.mem_of_getElem? (i := 1937) (by decide +kernel), List.mem_of_getElem? (i := 1938) (by decide +kernel)⟩
theorem lw_p135 : lw_okq (⟨"HedgeRecordModel", "isBehind", "(II)Z"⟩, 79) := ⟨⟨by decide +kernel, by decide +kernel⟩, List.mem_of_getElem? (i := 1191) (by decide +kernel), List.mem_of_getElem? (i := 1941) (by decide +kernel), List.mem_of_getElem? (i := 1942) (by decide +kernel)⟩
theorem lw_p136 : lw_okq (⟨"HedgeRecordModel", "nextOrder", "(I)Z"⟩, 79) := ⟨⟨by decide +kernel, by decide +kernel⟩, List.mem_of_getElem? (i := 1191) (by decide +kernel), List.mem_of_getElem? (i := 1945) (by decide +kernel), List.mem_of_getElem? (i := 1946) (by decide +kernel)⟩
theorem lw_p137 : lw_okq (⟨"HedgeRecordModel", "exchangeOrder", "(II)V"⟩, 79) := ⟨⟨by decide +kernel, by decide +kernel⟩, List.mem_of_getElem? (i := 1191) (by decide +kernel), List.mem_of_getElem? (i := 1949) (by decide +kernel), List.mem_of_getElem? (i := 1950) (by decide +kernel)⟩
theorem lw_p138 : lw_okq (⟨"HedgeRecordModel", "mostOf", "(I)I"⟩, 79) := ⟨⟨by decide +kernel, by decide +kernel⟩, List.mem_of_getElem? (i := 1191) (by decide +kernel), List.mem_of_getElem? (i := 1961) (by decide +kernel), List.mem_of_getElem? (i := 1962) (by decide +kernel)⟩
theorem lw_p139 : lw_okq (⟨"HedgeRecordModel", "allLife", "()I"⟩, 79) := ⟨⟨by decide +kernel, by decide +kernel⟩, List.mem_of_getElem? (i := 1191) (by decide +kernel), List.mem_of_getElem? (i := 1980) (by decide +kernel), List.mem_of_getElem? (i := 1981) (by decide +kernel)⟩
def lw_privs_9 : List (MethodName × Nat) := [(⟨"HedgeRecordModel", "layLast", "()V"⟩, 79), (⟨"HedgeRecordModel", "layThird", "()V"⟩, 79), (⟨"HedgeRecordModel", "layEnd", "()Z"⟩, 79), (⟨"HedgeRecordModel", "isFirst", "(I)Z"⟩, 79), (⟨"HedgeRecordModel", "firstBills", "()I"⟩, 79), (⟨"HedgeRecordModel", "layOrders", "(I)I"⟩, 79), (⟨"HedgeRecordModel", "isOrder", "(II)Z"⟩, 79), (⟨"HedgeRecordModel", "isBehind", "(II)Z"⟩, 79), (⟨"HedgeRecordModel", "nextOrder", "(I)Z"⟩, 79), (⟨"HedgeRecordModel", "exchangeOrder", "(II)V"⟩, 79), (⟨"HedgeRecordModel", "mostOf", "(I)I"⟩, 79), (⟨"HedgeRecordModel", "allLife", "()I"⟩, 79)]
theorem lw_r9 : ∀ q ∈ lw_privs_9, lw_okq q := List.forall_mem_cons.mpr ⟨lw_p128, List.forall_mem_cons.mpr ⟨lw_p129, List.forall_mem_cons.mpr ⟨lw_p130, List.forall_mem_cons.mpr ⟨lw_p131, List.forall_mem_cons.mpr ⟨lw_p132, List.forall_mem_cons.mpr ⟨lw_p133, List.forall_mem_cons.mpr ⟨lw_p134, List.forall_mem_cons.mpr ⟨lw_p135, List.forall_mem_cons.mpr ⟨lw_p136, List.forall_mem_cons.mpr ⟨lw_p137, List.forall_mem_cons.mpr ⟨lw_p138, List.forall_mem_cons.mpr ⟨lw_p139, fun _ h => absurd h List.not_mem_nil⟩⟩⟩⟩⟩⟩⟩⟩⟩⟩⟩⟩
def lw_privs : List (MethodName × Nat) := lw_privs_1 ++ (lw_privs_2 ++ (lw_privs_3 ++ (lw_privs_4 ++ (lw_privs_5 ++ (lw_privs_6 ++ (lw_privs_7 ++ (lw_privs_8 ++ (lw_privs_9))))))))
def lw_tbl : List Cond := k2_sels lw_privs ++ tables_1
theorem lw_privs_ok : ∀ q ∈ lw_privs, lw_okq q := by
  show ∀ q ∈ lw_privs_1 ++ (lw_privs_2 ++ (lw_privs_3 ++ (lw_privs_4 ++ (lw_privs_5 ++ (lw_privs_6 ++ (lw_privs_7 ++ (lw_privs_8 ++ (lw_privs_9)))))))), lw_okq q
  exact List.forall_mem_append.mpr ⟨lw_r1, List.forall_mem_append.mpr ⟨lw_r2, List.forall_mem_append.mpr ⟨lw_r3, List.forall_mem_append.mpr ⟨lw_r4, List.forall_mem_append.mpr ⟨lw_r5, List.forall_mem_append.mpr ⟨lw_r6, List.forall_mem_append.mpr ⟨lw_r7, List.forall_mem_append.mpr ⟨lw_r8, lw_r9⟩⟩⟩⟩⟩⟩⟩⟩
-- ===== end of PART A; then your names; then what follows =====
def RX0 : String := "HedgeRecord$Acts"
def TX0 : u_T := fun k => match k with
  | 0 => ("HedgeRecord$Acts", "done", "I", false)
  | 1 => ("HedgeRecord$Acts", "undone", "I", false)
  | 2 => ("HedgeRecord$Acts", "first", "I", false)
  | _ => ("HedgeRecord$Acts", "rows", "[I", true)
def tyX0 : Nat → FieldType := fun k => match k with
  | 0 => .int
  | 1 => .int
  | 2 => .int
  | _ => .array .int
abbrev wsX00 : List Cond := u_ws RX0 TX0 4
theorem nmX0 : ∀ a, a < 4 → ∀ b, b < 4 → a ≠ b → (TX0 a).2.1 ≠ (TX0 b).2.1 := by decide +kernel
theorem tyX0_ok : ∀ k, k < 4 → parseFieldDescriptor (TX0 k).2.2.1 = some (tyX0 k) := by decide +kernel
abbrev cX0_init : ByteArray := prog_2_method_1_code
def yX0_init : MethodName := ⟨RX0, "<init>", "()V"⟩
abbrev cX0_restart : ByteArray := prog_2_method_2_code
def yX0_restart : MethodName := ⟨RX0, "restart", "(LHedgeRecord$Growth;)V"⟩
abbrev cX0_keep : ByteArray := prog_2_method_3_code
def yX0_keep : MethodName := ⟨RX0, "keep", "(LHedgeRecord$Growth;)V"⟩
abbrev cX0_stepBack : ByteArray := prog_2_method_4_code
def yX0_stepBack : MethodName := ⟨RX0, "stepBack", "(LHedgeRecord$Growth;)Z"⟩
abbrev cX0_stepOn : ByteArray := prog_2_method_5_code
def yX0_stepOn : MethodName := ⟨RX0, "stepOn", "(LHedgeRecord$Growth;)Z"⟩
abbrev cX0_presentRow : ByteArray := prog_2_method_6_code
def yX0_presentRow : MethodName := ⟨RX0, "presentRow", "()I"⟩
def RX1 : String := "HedgeRecord$Bills"
def TX1 : u_T := fun k => match k with
  | 0 => ("HedgeRecord$Bills", "stake", "[I", true)
  | 1 => ("HedgeRecord$Bills", "plant", "[I", true)
  | 2 => ("HedgeRecord$Bills", "topic", "[I", true)
  | 3 => ("HedgeRecord$Bills", "says", "[I", true)
  | 4 => ("HedgeRecord$Bills", "amends", "[I", true)
  | 5 => ("HedgeRecord$Bills", "repeals", "[I", true)
  | _ => ("HedgeRecord$Bills", "order", "[I", true)
def tyX1 : Nat → FieldType := fun k => match k with
  | 0 => .array .int
  | 1 => .array .int
  | 2 => .array .int
  | 3 => .array .int
  | 4 => .array .int
  | 5 => .array .int
  | _ => .array .int
abbrev wsX10 : List Cond := u_ws RX1 TX1 7
theorem nmX1 : ∀ a, a < 7 → ∀ b, b < 7 → a ≠ b → (TX1 a).2.1 ≠ (TX1 b).2.1 := by decide +kernel
theorem tyX1_ok : ∀ k, k < 7 → parseFieldDescriptor (TX1 k).2.2.1 = some (tyX1 k) := by decide +kernel
abbrev cX1_init : ByteArray := prog_3_method_1_code
def yX1_init : MethodName := ⟨RX1, "<init>", "()V"⟩
abbrev cX1_put : ByteArray := prog_3_method_2_code
def yX1_put : MethodName := ⟨RX1, "put", "(IIIIIII)V"⟩
abbrev cX1_sortForReading : ByteArray := prog_3_method_3_code
def yX1_sortForReading : MethodName := ⟨RX1, "sortForReading", "()V"⟩
abbrev cX1_store : ByteArray := prog_3_method_4_code
def yX1_store : MethodName := ⟨RX1, "store", "([II)V"⟩
abbrev cX1_load : ByteArray := prog_3_method_5_code
def yX1_load : MethodName := ⟨RX1, "load", "([II)V"⟩
abbrev cX1_repealedBy : ByteArray := prog_3_method_6_code
def yX1_repealedBy : MethodName := ⟨RX1, "repealedBy", "(I)I"⟩
abbrev cX1_standing : ByteArray := prog_3_method_7_code
def yX1_standing : MethodName := ⟨RX1, "standing", "(I)I"⟩
abbrev cX1_onStake : ByteArray := prog_3_method_8_code
def yX1_onStake : MethodName := ⟨RX1, "onStake", "(II)I"⟩
abbrev cX1_othersNear : ByteArray := prog_3_method_9_code
def yX1_othersNear : MethodName := ⟨RX1, "othersNear", "(II)I"⟩
abbrev cX1_readInto : ByteArray := prog_3_method_10_code
def yX1_readInto : MethodName := ⟨RX1, "readInto", "([II)V"⟩
abbrev cX1_lawOf : ByteArray := prog_3_method_11_code
def yX1_lawOf : MethodName := ⟨RX1, "lawOf", "(II)I"⟩
abbrev cX1_lawWithNew : ByteArray := prog_3_method_12_code
def yX1_lawWithNew : MethodName := ⟨RX1, "lawWithNew", "(IIII)I"⟩
abbrev cX1_clashing : ByteArray := prog_3_method_13_code
def yX1_clashing : MethodName := ⟨RX1, "clashing", "(I)I"⟩
abbrev cX1_isClash : ByteArray := prog_3_method_14_code
def yX1_isClash : MethodName := ⟨RX1, "isClash", "(II)Z"⟩
def RX2 : String := "HedgeRecord$Formula"
def TX2 : u_T := fun k => match k with
  | 0 => ("HedgeRecord$Formula", "units", "I", false)
  | 1 => ("HedgeRecord$Formula", "length", "I", false)
  | 2 => ("HedgeRecord$Formula", "code", "[I", true)
  | 3 => ("HedgeRecord$Formula", "given", "[I", true)
  | _ => ("HedgeRecord$Formula", "stack", "[I", true)
def tyX2 : Nat → FieldType := fun k => match k with
  | 0 => .int
  | 1 => .int
  | 2 => .array .int
  | 3 => .array .int
  | _ => .array .int
abbrev wsX20 : List Cond := u_ws RX2 TX2 5
theorem nmX2 : ∀ a, a < 5 → ∀ b, b < 5 → a ≠ b → (TX2 a).2.1 ≠ (TX2 b).2.1 := by decide +kernel
theorem tyX2_ok : ∀ k, k < 5 → parseFieldDescriptor (TX2 k).2.2.1 = some (tyX2 k) := by decide +kernel
abbrev cX2_init : ByteArray := prog_4_method_1_code
def yX2_init : MethodName := ⟨RX2, "<init>", "()V"⟩
abbrev cX2_clear : ByteArray := prog_4_method_2_code
def yX2_clear : MethodName := ⟨RX2, "clear", "()V"⟩
abbrev cX2_emit : ByteArray := prog_4_method_3_code
def yX2_emit : MethodName := ⟨RX2, "emit", "(I)V"⟩
abbrev cX2_result : ByteArray := prog_4_method_4_code
def yX2_result : MethodName := ⟨RX2, "result", "(IIIII)I"⟩
abbrev cX2_joined : ByteArray := prog_4_method_5_code
def yX2_joined : MethodName := ⟨RX2, "joined", "(III)I"⟩
def RX3 : String := "HedgeRecord$Growth"
def TX3 : u_T := fun k => match k with
  | 0 => ("HedgeRecord$Growth", "count", "I", false)
  | 1 => ("HedgeRecord$Growth", "year", "I", false)
  | 2 => ("HedgeRecord$Growth", "seed", "I", false)
  | 3 => ("HedgeRecord$Growth", "life", "[I", true)
  | _ => ("HedgeRecord$Growth", "age", "[I", true)
def tyX3 : Nat → FieldType := fun k => match k with
  | 0 => .int
  | 1 => .int
  | 2 => .int
  | 3 => .array .int
  | _ => .array .int
abbrev wsX30 : List Cond := u_ws RX3 TX3 5
theorem nmX3 : ∀ a, a < 5 → ∀ b, b < 5 → a ≠ b → (TX3 a).2.1 ≠ (TX3 b).2.1 := by decide +kernel
theorem tyX3_ok : ∀ k, k < 5 → parseFieldDescriptor (TX3 k).2.2.1 = some (tyX3 k) := by decide +kernel
abbrev cX3_init : ByteArray := prog_5_method_1_code
def yX3_init : MethodName := ⟨RX3, "<init>", "()V"⟩
abbrev cX3_begin : ByteArray := prog_5_method_2_code
def yX3_begin : MethodName := ⟨RX3, "begin", "(LHedgeRecord$Hedge;)V"⟩
abbrev cX3_takeFrom : ByteArray := prog_5_method_3_code
def yX3_takeFrom : MethodName := ⟨RX3, "takeFrom", "(LHedgeRecord$Growth;)V"⟩
abbrev cX3_store : ByteArray := prog_5_method_4_code
def yX3_store : MethodName := ⟨RX3, "store", "([II)V"⟩
abbrev cX3_load : ByteArray := prog_5_method_5_code
def yX3_load : MethodName := ⟨RX3, "load", "([II)V"⟩
abbrev cX3_addBill : ByteArray := prog_5_method_6_code
def yX3_addBill : MethodName := ⟨RX3, "addBill", "(I)V"⟩
abbrev cX3_livingBits : ByteArray := prog_5_method_7_code
def yX3_livingBits : MethodName := ⟨RX3, "livingBits", "()I"⟩
abbrev cX3_allLife : ByteArray := prog_5_method_8_code
def yX3_allLife : MethodName := ⟨RX3, "allLife", "()I"⟩
abbrev cX3_cut : ByteArray := prog_5_method_9_code
def yX3_cut : MethodName := ⟨RX3, "cut", "(LHedgeRecord$Bills;II)V"⟩
abbrev cX3_passYear : ByteArray := prog_5_method_10_code
def yX3_passYear : MethodName := ⟨RX3, "passYear", "(LHedgeRecord$Hedge;)V"⟩
abbrev cX3_growAll : ByteArray := prog_5_method_11_code
def yX3_growAll : MethodName := ⟨RX3, "growAll", "(LHedgeRecord$Hedge;)V"⟩
abbrev cX3_freeze : ByteArray := prog_5_method_12_code
def yX3_freeze : MethodName := ⟨RX3, "freeze", "(LHedgeRecord$Hedge;)V"⟩
def RX4 : String := "HedgeRecord$Hedge"
def TX4 : u_T := fun k => match k with
  | 0 => ("HedgeRecord$Hedge", "stakes", "I", false)
  | 1 => ("HedgeRecord$Hedge", "plants", "I", false)
  | 2 => ("HedgeRecord$Hedge", "topics", "I", false)
  | 3 => ("HedgeRecord$Hedge", "parties", "I", false)
  | 4 => ("HedgeRecord$Hedge", "toldBills", "I", false)
  | 5 => ("HedgeRecord$Hedge", "plantLife", "[I", true)
  | 6 => ("HedgeRecord$Hedge", "hardyBits", "I", false)
  | 7 => ("HedgeRecord$Hedge", "wanted", "[I", true)
  | 8 => ("HedgeRecord$Hedge", "weight", "[I", true)
  | 9 => ("HedgeRecord$Hedge", "frost", "I", false)
  | 10 => ("HedgeRecord$Hedge", "frostLoss", "I", false)
  | 11 => ("HedgeRecord$Hedge", "draw", "I", false)
  | 12 => ("HedgeRecord$Hedge", "grow", "LHedgeRecord$Formula;", true)
  | _ => ("HedgeRecord$Hedge", "bills", "LHedgeRecord$Bills;", true)
def tyX4 : Nat → FieldType := fun k => match k with
  | 0 => .int
  | 1 => .int
  | 2 => .int
  | 3 => .int
  | 4 => .int
  | 5 => .array .int
  | 6 => .int
  | 7 => .array .int
  | 8 => .array .int
  | 9 => .int
  | 10 => .int
  | 11 => .int
  | 12 => .object "HedgeRecord$Formula"
  | _ => .object "HedgeRecord$Bills"
abbrev wsX40 : List Cond := u_ws RX4 TX4 14
theorem nmX4 : ∀ a, a < 14 → ∀ b, b < 14 → a ≠ b → (TX4 a).2.1 ≠ (TX4 b).2.1 := by decide +kernel
theorem tyX4_ok : ∀ k, k < 14 → parseFieldDescriptor (TX4 k).2.2.1 = some (tyX4 k) := by decide +kernel
abbrev cX4_init : ByteArray := prog_6_method_1_code
def yX4_init : MethodName := ⟨RX4, "<init>", "()V"⟩
abbrev cX4_clear : ByteArray := prog_6_method_2_code
def yX4_clear : MethodName := ⟨RX4, "clear", "()V"⟩
abbrev cX4_firstLifeOf : ByteArray := prog_6_method_3_code
def yX4_firstLifeOf : MethodName := ⟨RX4, "firstLifeOf", "(I)I"⟩
abbrev cX4_joyOf : ByteArray := prog_6_method_4_code
def yX4_joyOf : MethodName := ⟨RX4, "joyOf", "(I[I)I"⟩
def RX5 : String := "HedgeRecord$Images"
def TX5 : u_T := fun k => match k with
  | 0 => ("HedgeRecord$Images", "filled", "I", false)
  | _ => ("HedgeRecord$Images", "rows", "[I", true)
def tyX5 : Nat → FieldType := fun k => match k with
  | 0 => .int
  | _ => .array .int
abbrev wsX50 : List Cond := u_ws RX5 TX5 2
theorem nmX5 : ∀ a, a < 2 → ∀ b, b < 2 → a ≠ b → (TX5 a).2.1 ≠ (TX5 b).2.1 := by decide +kernel
theorem tyX5_ok : ∀ k, k < 2 → parseFieldDescriptor (TX5 k).2.2.1 = some (tyX5 k) := by decide +kernel
abbrev cX5_init : ByteArray := prog_7_method_1_code
def yX5_init : MethodName := ⟨RX5, "<init>", "()V"⟩
abbrev cX5_clear : ByteArray := prog_7_method_2_code
def yX5_clear : MethodName := ⟨RX5, "clear", "()V"⟩
abbrev cX5_has : ByteArray := prog_7_method_3_code
def yX5_has : MethodName := ⟨RX5, "has", "(I)Z"⟩
abbrev cX5_keep : ByteArray := prog_7_method_4_code
def yX5_keep : MethodName := ⟨RX5, "keep", "(ILHedgeRecord$Bills;LHedgeRecord$Growth;)V"⟩
abbrev cX5_bring : ByteArray := prog_7_method_5_code
def yX5_bring : MethodName := ⟨RX5, "bring", "(ILHedgeRecord$Bills;LHedgeRecord$Growth;)V"⟩
def RX6 : String := "HedgeRecord$Orders"
def TX6 : u_T := fun k => match k with
  | 0 => ("HedgeRecord$Orders", "total", "I", false)
  | 1 => ("HedgeRecord$Orders", "size", "I", false)
  | 2 => ("HedgeRecord$Orders", "needs", "[I", true)
  | 3 => ("HedgeRecord$Orders", "seats", "[I", true)
  | _ => ("HedgeRecord$Orders", "tally", "[I", true)
def tyX6 : Nat → FieldType := fun k => match k with
  | 0 => .int
  | 1 => .int
  | 2 => .array .int
  | 3 => .array .int
  | _ => .array .int
abbrev wsX60 : List Cond := u_ws RX6 TX6 5
theorem nmX6 : ∀ a, a < 5 → ∀ b, b < 5 → a ≠ b → (TX6 a).2.1 ≠ (TX6 b).2.1 := by decide +kernel
theorem tyX6_ok : ∀ k, k < 5 → parseFieldDescriptor (TX6 k).2.2.1 = some (tyX6 k) := by decide +kernel
abbrev cX6_init : ByteArray := prog_8_method_1_code
def yX6_init : MethodName := ⟨RX6, "<init>", "()V"⟩
abbrev cX6_gather : ByteArray := prog_8_method_2_code
def yX6_gather : MethodName := ⟨RX6, "gather", "(LHedgeRecord$Rings;ILHedgeRecord$Bills;I)V"⟩
abbrev cX6_bitOf : ByteArray := prog_8_method_3_code
def yX6_bitOf : MethodName := ⟨RX6, "bitOf", "(I)I"⟩
abbrev cX6_isSeated : ByteArray := prog_8_method_4_code
def yX6_isSeated : MethodName := ⟨RX6, "isSeated", "(I)Z"⟩
abbrev cX6_seatFrom : ByteArray := prog_8_method_5_code
def yX6_seatFrom : MethodName := ⟨RX6, "seatFrom", "(II)V"⟩
abbrev cX6_countSeats : ByteArray := prog_8_method_6_code
def yX6_countSeats : MethodName := ⟨RX6, "countSeats", "()V"⟩
abbrev cX6_tallied : ByteArray := prog_8_method_7_code
def yX6_tallied : MethodName := ⟨RX6, "tallied", "(II)I"⟩
abbrev cX6_surePlace : ByteArray := prog_8_method_8_code
def yX6_surePlace : MethodName := ⟨RX6, "surePlace", "(I)I"⟩
abbrev cX6_mostLeft : ByteArray := prog_8_method_9_code
def yX6_mostLeft : MethodName := ⟨RX6, "mostLeft", "(I)I"⟩
abbrev cX6_bestToAsk : ByteArray := prog_8_method_10_code
def yX6_bestToAsk : MethodName := ⟨RX6, "bestToAsk", "()I"⟩
def RX7 : String := "HedgeRecord$Reader"
def TX7 : u_T := fun k => match k with
  | 0 => ("HedgeRecord$Reader", "fault", "I", false)
  | 1 => ("HedgeRecord$Reader", "place", "I", false)
  | 2 => ("HedgeRecord$Reader", "text", "[B", true)
  | 3 => ("HedgeRecord$Reader", "length", "I", false)
  | 4 => ("HedgeRecord$Reader", "at", "I", false)
  | 5 => ("HedgeRecord$Reader", "behind", "I", false)
  | 6 => ("HedgeRecord$Reader", "kind", "I", false)
  | 7 => ("HedgeRecord$Reader", "value", "I", false)
  | 8 => ("HedgeRecord$Reader", "letters", "J", false)
  | 9 => ("HedgeRecord$Reader", "lines", "I", false)
  | 10 => ("HedgeRecord$Reader", "toldOnce", "I", false)
  | 11 => ("HedgeRecord$Reader", "taken", "I", false)
  | 12 => ("HedgeRecord$Reader", "names", "[J", true)
  | _ => ("HedgeRecord$Reader", "reserved", "[J", true)
def tyX7 : Nat → FieldType := fun k => match k with
  | 0 => .int
  | 1 => .int
  | 2 => .array .byte
  | 3 => .int
  | 4 => .int
  | 5 => .int
  | 6 => .int
  | 7 => .int
  | 8 => .long
  | 9 => .int
  | 10 => .int
  | 11 => .int
  | 12 => .array .long
  | _ => .array .long
abbrev wsX70 : List Cond := u_ws RX7 TX7 14
theorem nmX7 : ∀ a, a < 14 → ∀ b, b < 14 → a ≠ b → (TX7 a).2.1 ≠ (TX7 b).2.1 := by decide +kernel
theorem tyX7_ok : ∀ k, k < 14 → parseFieldDescriptor (TX7 k).2.2.1 = some (tyX7 k) := by decide +kernel
abbrev cX7_init : ByteArray := prog_9_method_1_code
def yX7_init : MethodName := ⟨RX7, "<init>", "([B)V"⟩
abbrev cX7_readAll : ByteArray := prog_9_method_2_code
def yX7_readAll : MethodName := ⟨RX7, "readAll", "(ILHedgeRecord$Hedge;)Z"⟩
abbrev cX7_readLine : ByteArray := prog_9_method_3_code
def yX7_readLine : MethodName := ⟨RX7, "readLine", "(LHedgeRecord$Hedge;)Z"⟩
abbrev cX7_readStakes : ByteArray := prog_9_method_4_code
def yX7_readStakes : MethodName := ⟨RX7, "readStakes", "(LHedgeRecord$Hedge;)Z"⟩
abbrev cX7_readPlant : ByteArray := prog_9_method_5_code
def yX7_readPlant : MethodName := ⟨RX7, "readPlant", "(LHedgeRecord$Hedge;)Z"⟩
abbrev cX7_readTopic : ByteArray := prog_9_method_6_code
def yX7_readTopic : MethodName := ⟨RX7, "readTopic", "(LHedgeRecord$Hedge;)Z"⟩
abbrev cX7_readParty : ByteArray := prog_9_method_7_code
def yX7_readParty : MethodName := ⟨RX7, "readParty", "(LHedgeRecord$Hedge;)Z"⟩
abbrev cX7_readBill : ByteArray := prog_9_method_8_code
def yX7_readBill : MethodName := ⟨RX7, "readBill", "(LHedgeRecord$Hedge;)Z"⟩
abbrev cX7_takeOther : ByteArray := prog_9_method_9_code
def yX7_takeOther : MethodName := ⟨RX7, "takeOther", "(II)Z"⟩
abbrev cX7_readWants : ByteArray := prog_9_method_10_code
def yX7_readWants : MethodName := ⟨RX7, "readWants", "(LHedgeRecord$Hedge;)Z"⟩
abbrev cX7_readFrost : ByteArray := prog_9_method_11_code
def yX7_readFrost : MethodName := ⟨RX7, "readFrost", "(LHedgeRecord$Hedge;)Z"⟩
abbrev cX7_readDraw : ByteArray := prog_9_method_12_code
def yX7_readDraw : MethodName := ⟨RX7, "readDraw", "(LHedgeRecord$Hedge;)Z"⟩
abbrev cX7_beginOnce : ByteArray := prog_9_method_13_code
def yX7_beginOnce : MethodName := ⟨RX7, "beginOnce", "()Z"⟩
abbrev cX7_beginSort : ByteArray := prog_9_method_14_code
def yX7_beginSort : MethodName := ⟨RX7, "beginSort", "(III)Z"⟩
abbrev cX7_readLevel : ByteArray := prog_9_method_15_code
def yX7_readLevel : MethodName := ⟨RX7, "readLevel", "(LHedgeRecord$Formula;II)Z"⟩
abbrev cX7_readNot : ByteArray := prog_9_method_16_code
def yX7_readNot : MethodName := ⟨RX7, "readNot", "(LHedgeRecord$Formula;I)Z"⟩
abbrev cX7_readUnit : ByteArray := prog_9_method_17_code
def yX7_readUnit : MethodName := ⟨RX7, "readUnit", "(LHedgeRecord$Formula;I)Z"⟩
abbrev cX7_joinedBy : ByteArray := prog_9_method_18_code
def yX7_joinedBy : MethodName := ⟨RX7, "joinedBy", "(I)I"⟩
abbrev cX7_singleUnit : ByteArray := prog_9_method_19_code
def yX7_singleUnit : MethodName := ⟨RX7, "singleUnit", "()I"⟩
abbrev cX7_isWord : ByteArray := prog_9_method_20_code
def yX7_isWord : MethodName := ⟨RX7, "isWord", "(I)Z"⟩
abbrev cX7_isName : ByteArray := prog_9_method_21_code
def yX7_isName : MethodName := ⟨RX7, "isName", "()Z"⟩
abbrev cX7_isSign : ByteArray := prog_9_method_22_code
def yX7_isSign : MethodName := ⟨RX7, "isSign", "(I)Z"⟩
abbrev cX7_takeWord : ByteArray := prog_9_method_23_code
def yX7_takeWord : MethodName := ⟨RX7, "takeWord", "(I)Z"⟩
abbrev cX7_takeSign : ByteArray := prog_9_method_24_code
def yX7_takeSign : MethodName := ⟨RX7, "takeSign", "(I)Z"⟩
abbrev cX7_takeNumber : ByteArray := prog_9_method_25_code
def yX7_takeNumber : MethodName := ⟨RX7, "takeNumber", "(II)Z"⟩
abbrev cX7_takeSaying : ByteArray := prog_9_method_26_code
def yX7_takeSaying : MethodName := ⟨RX7, "takeSaying", "()Z"⟩
abbrev cX7_takeKnown : ByteArray := prog_9_method_27_code
def yX7_takeKnown : MethodName := ⟨RX7, "takeKnown", "(II)Z"⟩
abbrev cX7_findName : ByteArray := prog_9_method_28_code
def yX7_findName : MethodName := ⟨RX7, "findName", "(II)I"⟩
abbrev cX7_refuseToken : ByteArray := prog_9_method_29_code
def yX7_refuseToken : MethodName := ⟨RX7, "refuseToken", "()Z"⟩
abbrev cX7_refuse : ByteArray := prog_9_method_30_code
def yX7_refuse : MethodName := ⟨RX7, "refuse", "(II)Z"⟩
abbrev cX7_step : ByteArray := prog_9_method_31_code
def yX7_step : MethodName := ⟨RX7, "step", "()V"⟩
abbrev cX7_stepWord : ByteArray := prog_9_method_32_code
def yX7_stepWord : MethodName := ⟨RX7, "stepWord", "()V"⟩
abbrev cX7_stepNumber : ByteArray := prog_9_method_33_code
def yX7_stepNumber : MethodName := ⟨RX7, "stepNumber", "()V"⟩
def RX8 : String := "HedgeRecord$Rings"
def TX8 : u_T := fun k => match k with
  | 0 => ("HedgeRecord$Rings", "count", "I", false)
  | 1 => ("HedgeRecord$Rings", "time", "I", false)
  | 2 => ("HedgeRecord$Rings", "earlier", "[I", true)
  | 3 => ("HedgeRecord$Rings", "behind", "[I", true)
  | 4 => ("HedgeRecord$Rings", "toldAt", "[I", true)
  | _ => ("HedgeRecord$Rings", "untoldAt", "[I", true)
def tyX8 : Nat → FieldType := fun k => match k with
  | 0 => .int
  | 1 => .int
  | 2 => .array .int
  | 3 => .array .int
  | 4 => .array .int
  | _ => .array .int
abbrev wsX80 : List Cond := u_ws RX8 TX8 6
theorem nmX8 : ∀ a, a < 6 → ∀ b, b < 6 → a ≠ b → (TX8 a).2.1 ≠ (TX8 b).2.1 := by decide +kernel
theorem tyX8_ok : ∀ k, k < 6 → parseFieldDescriptor (TX8 k).2.2.1 = some (tyX8 k) := by decide +kernel
abbrev cX8_init : ByteArray := prog_10_method_1_code
def yX8_init : MethodName := ⟨RX8, "<init>", "()V"⟩
abbrev cX8_clear : ByteArray := prog_10_method_2_code
def yX8_clear : MethodName := ⟨RX8, "clear", "()V"⟩
abbrev cX8_tell : ByteArray := prog_10_method_3_code
def yX8_tell : MethodName := ⟨RX8, "tell", "(II)I"⟩
abbrev cX8_takeBack : ByteArray := prog_10_method_4_code
def yX8_takeBack : MethodName := ⟨RX8, "takeBack", "(I)Z"⟩
abbrev cX8_isKnown : ByteArray := prog_10_method_5_code
def yX8_isKnown : MethodName := ⟨RX8, "isKnown", "(II)Z"⟩
def RX9 : String := "HedgeRecord$Trimming"
def TX9 : u_T := fun k => match k with
  | 0 => ("HedgeRecord$Trimming", "years", "I", false)
  | 1 => ("HedgeRecord$Trimming", "by", "I", false)
  | 2 => ("HedgeRecord$Trimming", "mostStanding", "I", false)
  | 3 => ("HedgeRecord$Trimming", "leastTrims", "I", false)
  | 4 => ("HedgeRecord$Trimming", "tried", "[I", true)
  | 5 => ("HedgeRecord$Trimming", "chosen", "[I", true)
  | 6 => ("HedgeRecord$Trimming", "rows", "[I", true)
  | _ => ("HedgeRecord$Trimming", "work", "LHedgeRecord$Growth;", true)
def tyX9 : Nat → FieldType := fun k => match k with
  | 0 => .int
  | 1 => .int
  | 2 => .int
  | 3 => .int
  | 4 => .array .int
  | 5 => .array .int
  | 6 => .array .int
  | _ => .object "HedgeRecord$Growth"
abbrev wsX90 : List Cond := u_ws RX9 TX9 8
theorem nmX9 : ∀ a, a < 8 → ∀ b, b < 8 → a ≠ b → (TX9 a).2.1 ≠ (TX9 b).2.1 := by decide +kernel
theorem tyX9_ok : ∀ k, k < 8 → parseFieldDescriptor (TX9 k).2.2.1 = some (tyX9 k) := by decide +kernel
abbrev cX9_init : ByteArray := prog_11_method_1_code
def yX9_init : MethodName := ⟨RX9, "<init>", "()V"⟩
abbrev cX9_best : ByteArray := prog_11_method_2_code
def yX9_best : MethodName := ⟨RX9, "best", "(LHedgeRecord$Hedge;LHedgeRecord$Growth;II)I"⟩
abbrev cX9_stakeOf : ByteArray := prog_11_method_3_code
def yX9_stakeOf : MethodName := ⟨RX9, "stakeOf", "(I)I"⟩
abbrev cX9_search : ByteArray := prog_11_method_4_code
def yX9_search : MethodName := ⟨RX9, "search", "(LHedgeRecord$Hedge;II)V"⟩
abbrev cX9_isBetter : ByteArray := prog_11_method_5_code
def yX9_isBetter : MethodName := ⟨RX9, "isBetter", "(II)Z"⟩
abbrev cX9_judge : ByteArray := prog_11_method_6_code
def yX9_judge : MethodName := ⟨RX9, "judge", "(II)V"⟩
def RX10 : String := "HedgeRecord$Turns"
def TX10 : u_T := fun k => match k with
  | _ => ("HedgeRecord$Turns", "laws", "[I", true)
def tyX10 : Nat → FieldType := fun k => match k with
  | _ => .array .int
abbrev wsX100 : List Cond := u_ws RX10 TX10 1
theorem nmX10 : ∀ a, a < 1 → ∀ b, b < 1 → a ≠ b → (TX10 a).2.1 ≠ (TX10 b).2.1 := by decide +kernel
theorem tyX10_ok : ∀ k, k < 1 → parseFieldDescriptor (TX10 k).2.2.1 = some (tyX10 k) := by decide +kernel
abbrev cX10_init : ByteArray := prog_12_method_1_code
def yX10_init : MethodName := ⟨RX10, "<init>", "()V"⟩
abbrev cX10_best : ByteArray := prog_12_method_2_code
def yX10_best : MethodName := ⟨RX10, "best", "(LHedgeRecord$Hedge;I)I"⟩
abbrev cX10_pickOf : ByteArray := prog_12_method_3_code
def yX10_pickOf : MethodName := ⟨RX10, "pickOf", "(II)I"⟩
abbrev cX10_bestFrom : ByteArray := prog_12_method_4_code
def yX10_bestFrom : MethodName := ⟨RX10, "bestFrom", "(LHedgeRecord$Hedge;II)I"⟩
abbrev cX10_joyAfter : ByteArray := prog_12_method_5_code
def yX10_joyAfter : MethodName := ⟨RX10, "joyAfter", "(LHedgeRecord$Hedge;III)I"⟩
def RX11 : String := "HedgeRecord"
def TX11 : u_T := fun k => match k with
  | 0 => ("HedgeRecord", "tape", "[B", true)
  | 1 => ("HedgeRecord", "taped", "I", false)
  | 2 => ("HedgeRecord", "reader", "LHedgeRecord$Reader;", true)
  | 3 => ("HedgeRecord", "told", "LHedgeRecord$Hedge;", false)
  | 4 => ("HedgeRecord", "spare", "LHedgeRecord$Hedge;", false)
  | 5 => ("HedgeRecord", "now", "LHedgeRecord$Growth;", true)
  | 6 => ("HedgeRecord", "ahead", "LHedgeRecord$Growth;", true)
  | 7 => ("HedgeRecord", "acts", "LHedgeRecord$Acts;", true)
  | 8 => ("HedgeRecord", "images", "LHedgeRecord$Images;", true)
  | 9 => ("HedgeRecord", "rings", "LHedgeRecord$Rings;", true)
  | 10 => ("HedgeRecord", "known", "LHedgeRecord$Orders;", true)
  | 11 => ("HedgeRecord", "trimming", "LHedgeRecord$Trimming;", true)
  | 12 => ("HedgeRecord", "turns", "LHedgeRecord$Turns;", true)
  | 13 => ("HedgeRecord", "laws", "[I", true)
  | 14 => ("HedgeRecord", "lying", "[I", true)
  | _ => ("HedgeRecord", "lyingCount", "I", false)
def tyX11 : Nat → FieldType := fun k => match k with
  | 0 => .array .byte
  | 1 => .int
  | 2 => .object "HedgeRecord$Reader"
  | 3 => .object "HedgeRecord$Hedge"
  | 4 => .object "HedgeRecord$Hedge"
  | 5 => .object "HedgeRecord$Growth"
  | 6 => .object "HedgeRecord$Growth"
  | 7 => .object "HedgeRecord$Acts"
  | 8 => .object "HedgeRecord$Images"
  | 9 => .object "HedgeRecord$Rings"
  | 10 => .object "HedgeRecord$Orders"
  | 11 => .object "HedgeRecord$Trimming"
  | 12 => .object "HedgeRecord$Turns"
  | 13 => .array .int
  | 14 => .array .int
  | _ => .int
abbrev wsX110 : List Cond := u_ws RX11 TX11 16
theorem nmX11 : ∀ a, a < 16 → ∀ b, b < 16 → a ≠ b → (TX11 a).2.1 ≠ (TX11 b).2.1 := by decide +kernel
theorem tyX11_ok : ∀ k, k < 16 → parseFieldDescriptor (TX11 k).2.2.1 = some (tyX11 k) := by decide +kernel
abbrev cX11_init : ByteArray := prog_1_method_1_code
def yX11_init : MethodName := ⟨RX11, "<init>", "()V"⟩
abbrev cX11_feed : ByteArray := prog_1_method_2_code
def yX11_feed : MethodName := ⟨RX11, "feed", "(IIIII)I"⟩
abbrev cX11_putBytes : ByteArray := prog_1_method_3_code
def yX11_putBytes : MethodName := ⟨RX11, "putBytes", "(I)V"⟩
abbrev cX11_end : ByteArray := prog_1_method_4_code
def yX11_end : MethodName := ⟨RX11, "end", "(I)I"⟩
abbrev cX11_hedge : ByteArray := prog_1_method_5_code
def yX11_hedge : MethodName := ⟨RX11, "hedge", "()I"⟩
abbrev cX11_fault : ByteArray := prog_1_method_6_code
def yX11_fault : MethodName := ⟨RX11, "fault", "(I)I"⟩
abbrev cX11_bill : ByteArray := prog_1_method_7_code
def yX11_bill : MethodName := ⟨RX11, "bill", "(II)I"⟩
abbrev cX11_stake : ByteArray := prog_1_method_8_code
def yX11_stake : MethodName := ⟨RX11, "stake", "(II)I"⟩
abbrev cX11_law : ByteArray := prog_1_method_9_code
def yX11_law : MethodName := ⟨RX11, "law", "(I)I"⟩
abbrev cX11_stands : ByteArray := prog_1_method_10_code
def yX11_stands : MethodName := ⟨RX11, "stands", "()I"⟩
abbrev cX11_falls : ByteArray := prog_1_method_11_code
def yX11_falls : MethodName := ⟨RX11, "falls", "(I)I"⟩
abbrev cX11_lay : ByteArray := prog_1_method_12_code
def yX11_lay : MethodName := ⟨RX11, "lay", "(IIIII)I"⟩
abbrev cX11_repeal : ByteArray := prog_1_method_13_code
def yX11_repeal : MethodName := ⟨RX11, "repeal", "(III)I"⟩
abbrev cX11_layBill : ByteArray := prog_1_method_14_code
def yX11_layBill : MethodName := ⟨RX11, "layBill", "(IIIIII)I"⟩
abbrev cX11_pull : ByteArray := prog_1_method_15_code
def yX11_pull : MethodName := ⟨RX11, "pull", "(I)I"⟩
abbrev cX11_trim : ByteArray := prog_1_method_16_code
def yX11_trim : MethodName := ⟨RX11, "trim", "(II)I"⟩
abbrev cX11_year : ByteArray := prog_1_method_17_code
def yX11_year : MethodName := ⟨RX11, "year", "()I"⟩
abbrev cX11_undo : ByteArray := prog_1_method_18_code
def yX11_undo : MethodName := ⟨RX11, "undo", "()Z"⟩
abbrev cX11_redo : ByteArray := prog_1_method_19_code
def yX11_redo : MethodName := ⟨RX11, "redo", "()Z"⟩
abbrev cX11_will : ByteArray := prog_1_method_20_code
def yX11_will : MethodName := ⟨RX11, "will", "(II)I"⟩
abbrev cX11_lapse : ByteArray := prog_1_method_21_code
def yX11_lapse : MethodName := ⟨RX11, "lapse", "(I)I"⟩
abbrev cX11_dies : ByteArray := prog_1_method_22_code
def yX11_dies : MethodName := ⟨RX11, "dies", "(I)I"⟩
abbrev cX11_living : ByteArray := prog_1_method_23_code
def yX11_living : MethodName := ⟨RX11, "living", "(I)I"⟩
abbrev cX11_lookAhead : ByteArray := prog_1_method_24_code
def yX11_lookAhead : MethodName := ⟨RX11, "lookAhead", "(I)V"⟩
abbrev cX11_clashes : ByteArray := prog_1_method_25_code
def yX11_clashes : MethodName := ⟨RX11, "clashes", "()I"⟩
abbrev cX11_weed : ByteArray := prog_1_method_26_code
def yX11_weed : MethodName := ⟨RX11, "weed", "(I)I"⟩
abbrev cX11_fewestWeeds : ByteArray := prog_1_method_27_code
def yX11_fewestWeeds : MethodName := ⟨RX11, "fewestWeeds", "()I"⟩
abbrev cX11_isClear : ByteArray := prog_1_method_28_code
def yX11_isClear : MethodName := ⟨RX11, "isClear", "(I)Z"⟩
abbrev cX11_places : ByteArray := prog_1_method_29_code
def yX11_places : MethodName := ⟨RX11, "places", "(III)I"⟩
abbrev cX11_gaps : ByteArray := prog_1_method_30_code
def yX11_gaps : MethodName := ⟨RX11, "gaps", "()I"⟩
abbrev cX11_widest : ByteArray := prog_1_method_31_code
def yX11_widest : MethodName := ⟨RX11, "widest", "()I"⟩
abbrev cX11_closes : ByteArray := prog_1_method_32_code
def yX11_closes : MethodName := ⟨RX11, "closes", "(I)I"⟩
abbrev cX11_walk : ByteArray := prog_1_method_33_code
def yX11_walk : MethodName := ⟨RX11, "walk", "(II)I"⟩
abbrev cX11_plan : ByteArray := prog_1_method_34_code
def yX11_plan : MethodName := ⟨RX11, "plan", "(II)I"⟩
abbrev cX11_joy : ByteArray := prog_1_method_35_code
def yX11_joy : MethodName := ⟨RX11, "joy", "(I)I"⟩
abbrev cX11_saddest : ByteArray := prog_1_method_36_code
def yX11_saddest : MethodName := ⟨RX11, "saddest", "()I"⟩
abbrev cX11_joyNow : ByteArray := prog_1_method_37_code
def yX11_joyNow : MethodName := ⟨RX11, "joyNow", "(I)I"⟩
abbrev cX11_game : ByteArray := prog_1_method_38_code
def yX11_game : MethodName := ⟨RX11, "game", "()I"⟩
abbrev cX11_layDown : ByteArray := prog_1_method_39_code
def yX11_layDown : MethodName := ⟨RX11, "layDown", "(I)V"⟩
abbrev cX11_lies : ByteArray := prog_1_method_40_code
def yX11_lies : MethodName := ⟨RX11, "lies", "(I)I"⟩
abbrev cX11_ring : ByteArray := prog_1_method_41_code
def yX11_ring : MethodName := ⟨RX11, "ring", "(IIZ)I"⟩
abbrev cX11_untell : ByteArray := prog_1_method_42_code
def yX11_untell : MethodName := ⟨RX11, "untell", "(I)Z"⟩
abbrev cX11_later : ByteArray := prog_1_method_43_code
def yX11_later : MethodName := ⟨RX11, "later", "(I)I"⟩
abbrev cX11_orders : ByteArray := prog_1_method_44_code
def yX11_orders : MethodName := ⟨RX11, "orders", "(I)I"⟩
abbrev cX11_sure : ByteArray := prog_1_method_45_code
def yX11_sure : MethodName := ⟨RX11, "sure", "(II)I"⟩
abbrev cX11_ask : ByteArray := prog_1_method_46_code
def yX11_ask : MethodName := ⟨RX11, "ask", "(II)I"⟩
abbrev cX11_image : ByteArray := prog_1_method_47_code
def yX11_image : MethodName := ⟨RX11, "image", "(I)I"⟩
abbrev cX11_back : ByteArray := prog_1_method_48_code
def yX11_back : MethodName := ⟨RX11, "back", "(I)I"⟩
abbrev cX11_about : ByteArray := prog_1_method_49_code
def yX11_about : MethodName := ⟨RX11, "about", "(I)I"⟩
abbrev cX11_standingNow : ByteArray := prog_1_method_50_code
def yX11_standingNow : MethodName := ⟨RX11, "standingNow", "()I"⟩
abbrev cX11_isBill : ByteArray := prog_1_method_51_code
def yX11_isBill : MethodName := ⟨RX11, "isBill", "(I)Z"⟩
abbrev cX11_isOrdered : ByteArray := prog_1_method_52_code
def yX11_isOrdered : MethodName := ⟨RX11, "isOrdered", "(I)Z"⟩
abbrev cX11_isStake : ByteArray := prog_1_method_53_code
def yX11_isStake : MethodName := ⟨RX11, "isStake", "(I)Z"⟩
abbrev cX11_isPlant : ByteArray := prog_1_method_54_code
def yX11_isPlant : MethodName := ⟨RX11, "isPlant", "(I)Z"⟩
abbrev cX11_isTopic : ByteArray := prog_1_method_55_code
def yX11_isTopic : MethodName := ⟨RX11, "isTopic", "(I)Z"⟩
abbrev cX11_isParty : ByteArray := prog_1_method_56_code
def yX11_isParty : MethodName := ⟨RX11, "isParty", "(I)Z"⟩
abbrev cX11_isAhead : ByteArray := prog_1_method_57_code
def yX11_isAhead : MethodName := ⟨RX11, "isAhead", "(I)Z"⟩
abbrev cX11_isSaying : ByteArray := prog_1_method_58_code
def yX11_isSaying : MethodName := ⟨RX11, "isSaying", "(I)Z"⟩
def RX12 : String := "HedgeRecordModel"
def TX12 : u_T := fun k => match k with
  | 0 => ("HedgeRecordModel", "tape", "[I", true)
  | 1 => ("HedgeRecordModel", "taped", "I", false)
  | 2 => ("HedgeRecordModel", "fault", "I", false)
  | 3 => ("HedgeRecordModel", "faultPlace", "I", false)
  | 4 => ("HedgeRecordModel", "at", "I", false)
  | 5 => ("HedgeRecordModel", "size", "I", false)
  | 6 => ("HedgeRecordModel", "sort", "I", false)
  | 7 => ("HedgeRecordModel", "place", "I", false)
  | 8 => ("HedgeRecordModel", "number", "I", false)
  | 9 => ("HedgeRecordModel", "word", "J", false)
  | 10 => ("HedgeRecordModel", "nName", "[J", true)
  | 11 => ("HedgeRecordModel", "nStep", "[I", true)
  | 12 => ("HedgeRecordModel", "nArg", "[I", true)
  | 13 => ("HedgeRecordModel", "step", "[I", true)
  | 14 => ("HedgeRecordModel", "arg", "[I", true)
  | 15 => ("HedgeRecordModel", "open", "[I", true)
  | 16 => ("HedgeRecordModel", "values", "[I", true)
  | 17 => ("HedgeRecordModel", "nSteps", "I", false)
  | 18 => ("HedgeRecordModel", "steps", "I", false)
  | 19 => ("HedgeRecordModel", "opens", "I", false)
  | 20 => ("HedgeRecordModel", "nUnits", "I", false)
  | 21 => ("HedgeRecordModel", "units", "I", false)
  | 22 => ("HedgeRecordModel", "ownUnits", "I", false)
  | 23 => ("HedgeRecordModel", "deep", "I", false)
  | 24 => ("HedgeRecordModel", "asks", "[I", true)
  | 25 => ("HedgeRecordModel", "nLife", "[I", true)
  | 26 => ("HedgeRecordModel", "lifeOf", "[I", true)
  | 27 => ("HedgeRecordModel", "nWant", "[I", true)
  | 28 => ("HedgeRecordModel", "nBy", "[I", true)
  | 29 => ("HedgeRecordModel", "want", "[I", true)
  | 30 => ("HedgeRecordModel", "by", "[I", true)
  | 31 => ("HedgeRecordModel", "nHardy", "[Z", true)
  | 32 => ("HedgeRecordModel", "hardy", "[Z", true)
  | 33 => ("HedgeRecordModel", "nBill", "[I", true)
  | 34 => ("HedgeRecordModel", "nStakes", "I", false)
  | 35 => ("HedgeRecordModel", "nPlants", "I", false)
  | 36 => ("HedgeRecordModel", "nTopics", "I", false)
  | 37 => ("HedgeRecordModel", "nBills", "I", false)
  | 38 => ("HedgeRecordModel", "nParties", "I", false)
  | 39 => ("HedgeRecordModel", "nFrost", "I", false)
  | 40 => ("HedgeRecordModel", "nFrostOf", "I", false)
  | 41 => ("HedgeRecordModel", "nDraw", "I", false)
  | 42 => ("HedgeRecordModel", "stakes", "I", false)
  | 43 => ("HedgeRecordModel", "plants", "I", false)
  | 44 => ("HedgeRecordModel", "topics", "I", false)
  | 45 => ("HedgeRecordModel", "parties", "I", false)
  | 46 => ("HedgeRecordModel", "frost", "I", false)
  | 47 => ("HedgeRecordModel", "frostOf", "I", false)
  | 48 => ("HedgeRecordModel", "nHasLine", "Z", false)
  | 49 => ("HedgeRecordModel", "nHasGrow", "Z", false)
  | 50 => ("HedgeRecordModel", "nHasFrost", "Z", false)
  | 51 => ("HedgeRecordModel", "nHasDraw", "Z", false)
  | 52 => ("HedgeRecordModel", "hasGrow", "Z", false)
  | 53 => ("HedgeRecordModel", "now", "[I", true)
  | 54 => ("HedgeRecordModel", "air", "[I", true)
  | 55 => ("HedgeRecordModel", "were", "[I", true)
  | 56 => ("HedgeRecordModel", "acts", "I", false)
  | 57 => ("HedgeRecordModel", "undone", "I", false)
  | 58 => ("HedgeRecordModel", "cut", "[I", true)
  | 59 => ("HedgeRecordModel", "lies", "[I", true)
  | 60 => ("HedgeRecordModel", "lain", "I", false)
  | 61 => ("HedgeRecordModel", "endJoy", "[I", true)
  | 62 => ("HedgeRecordModel", "bestJoy", "[I", true)
  | 63 => ("HedgeRecordModel", "pulled", "[I", true)
  | 64 => ("HedgeRecordModel", "secondJoy", "[I", true)
  | 65 => ("HedgeRecordModel", "secondPulls", "I", false)
  | 66 => ("HedgeRecordModel", "thirdPulls", "I", false)
  | 67 => ("HedgeRecordModel", "ringOf", "[I", true)
  | 68 => ("HedgeRecordModel", "ringOther", "[I", true)
  | 69 => ("HedgeRecordModel", "ringTold", "[I", true)
  | 70 => ("HedgeRecordModel", "ringUntold", "[I", true)
  | 71 => ("HedgeRecordModel", "ringAhead", "[Z", true)
  | 72 => ("HedgeRecordModel", "rings", "I", false)
  | 73 => ("HedgeRecordModel", "time", "I", false)
  | 74 => ("HedgeRecordModel", "order", "[I", true)
  | 75 => ("HedgeRecordModel", "placeOf", "[I", true)
  | 76 => ("HedgeRecordModel", "tally", "[I", true)
  | 77 => ("HedgeRecordModel", "hasBox", "[Z", true)
  | _ => ("HedgeRecordModel", "boxes", "[I", true)
def tyX12 : Nat → FieldType := fun k => match k with
  | 0 => .array .int
  | 1 => .int
  | 2 => .int
  | 3 => .int
  | 4 => .int
  | 5 => .int
  | 6 => .int
  | 7 => .int
  | 8 => .int
  | 9 => .long
  | 10 => .array .long
  | 11 => .array .int
  | 12 => .array .int
  | 13 => .array .int
  | 14 => .array .int
  | 15 => .array .int
  | 16 => .array .int
  | 17 => .int
  | 18 => .int
  | 19 => .int
  | 20 => .int
  | 21 => .int
  | 22 => .int
  | 23 => .int
  | 24 => .array .int
  | 25 => .array .int
  | 26 => .array .int
  | 27 => .array .int
  | 28 => .array .int
  | 29 => .array .int
  | 30 => .array .int
  | 31 => .array .boolean
  | 32 => .array .boolean
  | 33 => .array .int
  | 34 => .int
  | 35 => .int
  | 36 => .int
  | 37 => .int
  | 38 => .int
  | 39 => .int
  | 40 => .int
  | 41 => .int
  | 42 => .int
  | 43 => .int
  | 44 => .int
  | 45 => .int
  | 46 => .int
  | 47 => .int
  | 48 => .boolean
  | 49 => .boolean
  | 50 => .boolean
  | 51 => .boolean
  | 52 => .boolean
  | 53 => .array .int
  | 54 => .array .int
  | 55 => .array .int
  | 56 => .int
  | 57 => .int
  | 58 => .array .int
  | 59 => .array .int
  | 60 => .int
  | 61 => .array .int
  | 62 => .array .int
  | 63 => .array .int
  | 64 => .array .int
  | 65 => .int
  | 66 => .int
  | 67 => .array .int
  | 68 => .array .int
  | 69 => .array .int
  | 70 => .array .int
  | 71 => .array .boolean
  | 72 => .int
  | 73 => .int
  | 74 => .array .int
  | 75 => .array .int
  | 76 => .array .int
  | 77 => .array .boolean
  | _ => .array .int
abbrev wsX120 : List Cond := u_ws RX12 TX12 79
theorem nmX12 : ∀ a, a < 79 → ∀ b, b < 79 → a ≠ b → (TX12 a).2.1 ≠ (TX12 b).2.1 := by decide +kernel
theorem tyX12_ok : ∀ k, k < 79 → parseFieldDescriptor (TX12 k).2.2.1 = some (tyX12 k) := by decide +kernel
abbrev cX12_init : ByteArray := prog_14_method_1_code
def yX12_init : MethodName := ⟨RX12, "<init>", "()V"⟩
abbrev cX12_feed : ByteArray := prog_14_method_2_code
def yX12_feed : MethodName := ⟨RX12, "feed", "(IIIII)I"⟩
abbrev cX12_four : ByteArray := prog_14_method_3_code
def yX12_four : MethodName := ⟨RX12, "four", "(I)V"⟩
abbrev cX12_end : ByteArray := prog_14_method_4_code
def yX12_end : MethodName := ⟨RX12, "end", "(I)I"⟩
abbrev cX12_here : ByteArray := prog_14_method_5_code
def yX12_here : MethodName := ⟨RX12, "here", "(I)I"⟩
abbrev cX12_isLetter : ByteArray := prog_14_method_6_code
def yX12_isLetter : MethodName := ⟨RX12, "isLetter", "(I)Z"⟩
abbrev cX12_isDigit : ByteArray := prog_14_method_7_code
def yX12_isDigit : MethodName := ⟨RX12, "isDigit", "(I)Z"⟩
abbrev cX12_isSign : ByteArray := prog_14_method_8_code
def yX12_isSign : MethodName := ⟨RX12, "isSign", "(I)Z"⟩
abbrev cX12_token : ByteArray := prog_14_method_9_code
def yX12_token : MethodName := ⟨RX12, "token", "()V"⟩
abbrev cX12_wrong : ByteArray := prog_14_method_10_code
def yX12_wrong : MethodName := ⟨RX12, "wrong", "(I)V"⟩
abbrev cX12_isWord : ByteArray := prog_14_method_11_code
def yX12_isWord : MethodName := ⟨RX12, "isWord", "(J)Z"⟩
abbrev cX12_isOwn : ByteArray := prog_14_method_12_code
def yX12_isOwn : MethodName := ⟨RX12, "isOwn", "()Z"⟩
abbrev cX12_isName : ByteArray := prog_14_method_13_code
def yX12_isName : MethodName := ⟨RX12, "isName", "()Z"⟩
abbrev cX12_want : ByteArray := prog_14_method_14_code
def yX12_want : MethodName := ⟨RX12, "want", "(J)V"⟩
abbrev cX12_toldNumber : ByteArray := prog_14_method_15_code
def yX12_toldNumber : MethodName := ⟨RX12, "toldNumber", "(II)I"⟩
abbrev cX12_told : ByteArray := prog_14_method_16_code
def yX12_told : MethodName := ⟨RX12, "told", "(JII)I"⟩
abbrev cX12_toldValue : ByteArray := prog_14_method_17_code
def yX12_toldValue : MethodName := ⟨RX12, "toldValue", "(I)I"⟩
abbrev cX12_find : ByteArray := prog_14_method_18_code
def yX12_find : MethodName := ⟨RX12, "find", "(II)I"⟩
abbrev cX12_newName : ByteArray := prog_14_method_19_code
def yX12_newName : MethodName := ⟨RX12, "newName", "(II)V"⟩
abbrev cX12_oldName : ByteArray := prog_14_method_20_code
def yX12_oldName : MethodName := ⟨RX12, "oldName", "(II)I"⟩
abbrev cX12_nameBehind : ByteArray := prog_14_method_21_code
def yX12_nameBehind : MethodName := ⟨RX12, "nameBehind", "(JII)I"⟩
abbrev cX12_add : ByteArray := prog_14_method_22_code
def yX12_add : MethodName := ⟨RX12, "add", "(II)V"⟩
abbrev cX12_tight : ByteArray := prog_14_method_23_code
def yX12_tight : MethodName := ⟨RX12, "tight", "(I)I"⟩
abbrev cX12_close : ByteArray := prog_14_method_24_code
def yX12_close : MethodName := ⟨RX12, "close", "(I)V"⟩
abbrev cX12_hasRelation : ByteArray := prog_14_method_25_code
def yX12_hasRelation : MethodName := ⟨RX12, "hasRelation", "()Z"⟩
abbrev cX12_mayNot : ByteArray := prog_14_method_26_code
def yX12_mayNot : MethodName := ⟨RX12, "mayNot", "()Z"⟩
abbrev cX12_asked : ByteArray := prog_14_method_27_code
def yX12_asked : MethodName := ⟨RX12, "asked", "()I"⟩
abbrev cX12_isFull : ByteArray := prog_14_method_28_code
def yX12_isFull : MethodName := ⟨RX12, "isFull", "()Z"⟩
abbrev cX12_countUnit : ByteArray := prog_14_method_29_code
def yX12_countUnit : MethodName := ⟨RX12, "countUnit", "()V"⟩
abbrev cX12_openUp : ByteArray := prog_14_method_30_code
def yX12_openUp : MethodName := ⟨RX12, "openUp", "(I)V"⟩
abbrev cX12_unit : ByteArray := prog_14_method_31_code
def yX12_unit : MethodName := ⟨RX12, "unit", "()V"⟩
abbrev cX12_sign : ByteArray := prog_14_method_32_code
def yX12_sign : MethodName := ⟨RX12, "sign", "()I"⟩
abbrev cX12_hasBracket : ByteArray := prog_14_method_33_code
def yX12_hasBracket : MethodName := ⟨RX12, "hasBracket", "()Z"⟩
abbrev cX12_readGrow : ByteArray := prog_14_method_34_code
def yX12_readGrow : MethodName := ⟨RX12, "readGrow", "()V"⟩
abbrev cX12_truth : ByteArray := prog_14_method_35_code
def yX12_truth : MethodName := ⟨RX12, "truth", "(Z)I"⟩
abbrev cX12_done : ByteArray := prog_14_method_36_code
def yX12_done : MethodName := ⟨RX12, "done", "(III)I"⟩
abbrev cX12_grown : ByteArray := prog_14_method_37_code
def yX12_grown : MethodName := ⟨RX12, "grown", "()I"⟩
abbrev cX12_readPlant : ByteArray := prog_14_method_38_code
def yX12_readPlant : MethodName := ⟨RX12, "readPlant", "()V"⟩
abbrev cX12_readTopic : ByteArray := prog_14_method_39_code
def yX12_readTopic : MethodName := ⟨RX12, "readTopic", "()V"⟩
abbrev cX12_readBill : ByteArray := prog_14_method_40_code
def yX12_readBill : MethodName := ⟨RX12, "readBill", "()V"⟩
abbrev cX12_readParty : ByteArray := prog_14_method_41_code
def yX12_readParty : MethodName := ⟨RX12, "readParty", "()V"⟩
abbrev cX12_readWants : ByteArray := prog_14_method_42_code
def yX12_readWants : MethodName := ⟨RX12, "readWants", "()V"⟩
abbrev cX12_readLine : ByteArray := prog_14_method_43_code
def yX12_readLine : MethodName := ⟨RX12, "readLine", "()V"⟩
abbrev cX12_readAll : ByteArray := prog_14_method_44_code
def yX12_readAll : MethodName := ⟨RX12, "readAll", "()V"⟩
abbrev cX12_hedge : ByteArray := prog_14_method_45_code
def yX12_hedge : MethodName := ⟨RX12, "hedge", "()I"⟩
abbrev cX12_fault : ByteArray := prog_14_method_46_code
def yX12_fault : MethodName := ⟨RX12, "fault", "(I)I"⟩
abbrev cX12_isIn : ByteArray := prog_14_method_47_code
def yX12_isIn : MethodName := ⟨RX12, "isIn", "(III)Z"⟩
abbrev cX12_isBill : ByteArray := prog_14_method_48_code
def yX12_isBill : MethodName := ⟨RX12, "isBill", "(I)Z"⟩
abbrev cX12_isStake : ByteArray := prog_14_method_49_code
def yX12_isStake : MethodName := ⟨RX12, "isStake", "(I)Z"⟩
abbrev cX12_isTopic : ByteArray := prog_14_method_50_code
def yX12_isTopic : MethodName := ⟨RX12, "isTopic", "(I)Z"⟩
abbrev cX12_isPlant : ByteArray := prog_14_method_51_code
def yX12_isPlant : MethodName := ⟨RX12, "isPlant", "(I)Z"⟩
abbrev cX12_load : ByteArray := prog_14_method_52_code
def yX12_load : MethodName := ⟨RX12, "load", "()V"⟩
abbrev cX12_of : ByteArray := prog_14_method_53_code
def yX12_of : MethodName := ⟨RX12, "of", "(II)I"⟩
abbrev cX12_bills : ByteArray := prog_14_method_54_code
def yX12_bills : MethodName := ⟨RX12, "bills", "()I"⟩
abbrev cX12_lives : ByteArray := prog_14_method_55_code
def yX12_lives : MethodName := ⟨RX12, "lives", "(I)Z"⟩
abbrev cX12_livingSet : ByteArray := prog_14_method_56_code
def yX12_livingSet : MethodName := ⟨RX12, "livingSet", "()I"⟩
abbrev cX12_repealedSet : ByteArray := prog_14_method_57_code
def yX12_repealedSet : MethodName := ⟨RX12, "repealedSet", "()I"⟩
abbrev cX12_standing : ByteArray := prog_14_method_58_code
def yX12_standing : MethodName := ⟨RX12, "standing", "()I"⟩
abbrev cX12_lawOf : ByteArray := prog_14_method_59_code
def yX12_lawOf : MethodName := ⟨RX12, "lawOf", "(I)I"⟩
abbrev cX12_apart : ByteArray := prog_14_method_60_code
def yX12_apart : MethodName := ⟨RX12, "apart", "(II)I"⟩
abbrev cX12_near : ByteArray := prog_14_method_61_code
def yX12_near : MethodName := ⟨RX12, "near", "(I)I"⟩
abbrev cX12_lessen : ByteArray := prog_14_method_62_code
def yX12_lessen : MethodName := ⟨RX12, "lessen", "(II)V"⟩
abbrev cX12_goYear : ByteArray := prog_14_method_63_code
def yX12_goYear : MethodName := ⟨RX12, "goYear", "()I"⟩
abbrev cX12_members : ByteArray := prog_14_method_64_code
def yX12_members : MethodName := ⟨RX12, "members", "(I)I"⟩
abbrev cX12_bill : ByteArray := prog_14_method_65_code
def yX12_bill : MethodName := ⟨RX12, "bill", "(II)I"⟩
abbrev cX12_billsAt : ByteArray := prog_14_method_66_code
def yX12_billsAt : MethodName := ⟨RX12, "billsAt", "(I)I"⟩
abbrev cX12_stake : ByteArray := prog_14_method_67_code
def yX12_stake : MethodName := ⟨RX12, "stake", "(II)I"⟩
abbrev cX12_law : ByteArray := prog_14_method_68_code
def yX12_law : MethodName := ⟨RX12, "law", "(I)I"⟩
abbrev cX12_stands : ByteArray := prog_14_method_69_code
def yX12_stands : MethodName := ⟨RX12, "stands", "()I"⟩
abbrev cX12_kill : ByteArray := prog_14_method_70_code
def yX12_kill : MethodName := ⟨RX12, "kill", "(I)V"⟩
abbrev cX12_falls : ByteArray := prog_14_method_71_code
def yX12_falls : MethodName := ⟨RX12, "falls", "(I)I"⟩
abbrev cX12_act : ByteArray := prog_14_method_72_code
def yX12_act : MethodName := ⟨RX12, "act", "()V"⟩
abbrev cX12_exchange : ByteArray := prog_14_method_73_code
def yX12_exchange : MethodName := ⟨RX12, "exchange", "(I)V"⟩
abbrev cX12_keep : ByteArray := prog_14_method_74_code
def yX12_keep : MethodName := ⟨RX12, "keep", "()V"⟩
abbrev cX12_put : ByteArray := prog_14_method_75_code
def yX12_put : MethodName := ⟨RX12, "put", "(IIIIII)V"⟩
abbrev cX12_canPut : ByteArray := prog_14_method_76_code
def yX12_canPut : MethodName := ⟨RX12, "canPut", "(II)Z"⟩
abbrev cX12_lay : ByteArray := prog_14_method_77_code
def yX12_lay : MethodName := ⟨RX12, "lay", "(IIIII)I"⟩
abbrev cX12_repeal : ByteArray := prog_14_method_78_code
def yX12_repeal : MethodName := ⟨RX12, "repeal", "(III)I"⟩
abbrev cX12_pull : ByteArray := prog_14_method_79_code
def yX12_pull : MethodName := ⟨RX12, "pull", "(I)I"⟩
abbrev cX12_trimHere : ByteArray := prog_14_method_80_code
def yX12_trimHere : MethodName := ⟨RX12, "trimHere", "(II)V"⟩
abbrev cX12_trim : ByteArray := prog_14_method_81_code
def yX12_trim : MethodName := ⟨RX12, "trim", "(II)I"⟩
abbrev cX12_year : ByteArray := prog_14_method_82_code
def yX12_year : MethodName := ⟨RX12, "year", "()I"⟩
abbrev cX12_undo : ByteArray := prog_14_method_83_code
def yX12_undo : MethodName := ⟨RX12, "undo", "()Z"⟩
abbrev cX12_redo : ByteArray := prog_14_method_84_code
def yX12_redo : MethodName := ⟨RX12, "redo", "()Z"⟩
abbrev cX12_goFar : ByteArray := prog_14_method_85_code
def yX12_goFar : MethodName := ⟨RX12, "goFar", "(I)V"⟩
abbrev cX12_will : ByteArray := prog_14_method_86_code
def yX12_will : MethodName := ⟨RX12, "will", "(II)I"⟩
abbrev cX12_lapse : ByteArray := prog_14_method_87_code
def yX12_lapse : MethodName := ⟨RX12, "lapse", "(I)I"⟩
abbrev cX12_dies : ByteArray := prog_14_method_88_code
def yX12_dies : MethodName := ⟨RX12, "dies", "(I)I"⟩
abbrev cX12_living : ByteArray := prog_14_method_89_code
def yX12_living : MethodName := ⟨RX12, "living", "(I)I"⟩
abbrev cX12_isPlain : ByteArray := prog_14_method_90_code
def yX12_isPlain : MethodName := ⟨RX12, "isPlain", "(II)Z"⟩
abbrev cX12_clashesHere : ByteArray := prog_14_method_91_code
def yX12_clashesHere : MethodName := ⟨RX12, "clashesHere", "()I"⟩
abbrev cX12_clashes : ByteArray := prog_14_method_92_code
def yX12_clashes : MethodName := ⟨RX12, "clashes", "()I"⟩
abbrev cX12_weed : ByteArray := prog_14_method_93_code
def yX12_weed : MethodName := ⟨RX12, "weed", "(I)I"⟩
abbrev cX12_places : ByteArray := prog_14_method_94_code
def yX12_places : MethodName := ⟨RX12, "places", "(III)I"⟩
abbrev cX12_gapSet : ByteArray := prog_14_method_95_code
def yX12_gapSet : MethodName := ⟨RX12, "gapSet", "()I"⟩
abbrev cX12_gaps : ByteArray := prog_14_method_96_code
def yX12_gaps : MethodName := ⟨RX12, "gaps", "()I"⟩
abbrev cX12_widest : ByteArray := prog_14_method_97_code
def yX12_widest : MethodName := ⟨RX12, "widest", "()I"⟩
abbrev cX12_closes : ByteArray := prog_14_method_98_code
def yX12_closes : MethodName := ⟨RX12, "closes", "(I)I"⟩
abbrev cX12_walk : ByteArray := prog_14_method_99_code
def yX12_walk : MethodName := ⟨RX12, "walk", "(II)I"⟩
abbrev cX12_layCuts : ByteArray := prog_14_method_100_code
def yX12_layCuts : MethodName := ⟨RX12, "layCuts", "(II)V"⟩
abbrev cX12_cutsOf : ByteArray := prog_14_method_101_code
def yX12_cutsOf : MethodName := ⟨RX12, "cutsOf", "(I)I"⟩
abbrev cX12_standBy : ByteArray := prog_14_method_102_code
def yX12_standBy : MethodName := ⟨RX12, "standBy", "(II)I"⟩
abbrev cX12_plan : ByteArray := prog_14_method_103_code
def yX12_plan : MethodName := ⟨RX12, "plan", "(II)I"⟩
abbrev cX12_joyOf : ByteArray := prog_14_method_104_code
def yX12_joyOf : MethodName := ⟨RX12, "joyOf", "(I)I"⟩
abbrev cX12_isParty : ByteArray := prog_14_method_105_code
def yX12_isParty : MethodName := ⟨RX12, "isParty", "(I)Z"⟩
abbrev cX12_joy : ByteArray := prog_14_method_106_code
def yX12_joy : MethodName := ⟨RX12, "joy", "(I)I"⟩
abbrev cX12_saddest : ByteArray := prog_14_method_107_code
def yX12_saddest : MethodName := ⟨RX12, "saddest", "()I"⟩
abbrev cX12_layEnd : ByteArray := prog_14_method_108_code
def yX12_layEnd : MethodName := ⟨RX12, "layEnd", "()Z"⟩
abbrev cX12_layThird : ByteArray := prog_14_method_109_code
def yX12_layThird : MethodName := ⟨RX12, "layThird", "()V"⟩
abbrev cX12_canPull : ByteArray := prog_14_method_110_code
def yX12_canPull : MethodName := ⟨RX12, "canPull", "(II)Z"⟩
abbrev cX12_laySecond : ByteArray := prog_14_method_111_code
def yX12_laySecond : MethodName := ⟨RX12, "laySecond", "()V"⟩
abbrev cX12_layLast : ByteArray := prog_14_method_112_code
def yX12_layLast : MethodName := ⟨RX12, "layLast", "()V"⟩
abbrev cX12_game : ByteArray := prog_14_method_113_code
def yX12_game : MethodName := ⟨RX12, "game", "()I"⟩
abbrev cX12_lies : ByteArray := prog_14_method_114_code
def yX12_lies : MethodName := ⟨RX12, "lies", "(I)I"⟩
abbrev cX12_firstBills : ByteArray := prog_14_method_115_code
def yX12_firstBills : MethodName := ⟨RX12, "firstBills", "()I"⟩
abbrev cX12_isFirst : ByteArray := prog_14_method_116_code
def yX12_isFirst : MethodName := ⟨RX12, "isFirst", "(I)Z"⟩
abbrev cX12_ring : ByteArray := prog_14_method_117_code
def yX12_ring : MethodName := ⟨RX12, "ring", "(IIZ)I"⟩
abbrev cX12_untell : ByteArray := prog_14_method_118_code
def yX12_untell : MethodName := ⟨RX12, "untell", "(I)Z"⟩
abbrev cX12_later : ByteArray := prog_14_method_119_code
def yX12_later : MethodName := ⟨RX12, "later", "(I)I"⟩
abbrev cX12_nextOrder : ByteArray := prog_14_method_120_code
def yX12_nextOrder : MethodName := ⟨RX12, "nextOrder", "(I)Z"⟩
abbrev cX12_exchangeOrder : ByteArray := prog_14_method_121_code
def yX12_exchangeOrder : MethodName := ⟨RX12, "exchangeOrder", "(II)V"⟩
abbrev cX12_isBehind : ByteArray := prog_14_method_122_code
def yX12_isBehind : MethodName := ⟨RX12, "isBehind", "(II)Z"⟩
abbrev cX12_isOrder : ByteArray := prog_14_method_123_code
def yX12_isOrder : MethodName := ⟨RX12, "isOrder", "(II)Z"⟩
abbrev cX12_layOrders : ByteArray := prog_14_method_124_code
def yX12_layOrders : MethodName := ⟨RX12, "layOrders", "(I)I"⟩
abbrev cX12_orders : ByteArray := prog_14_method_125_code
def yX12_orders : MethodName := ⟨RX12, "orders", "(I)I"⟩
abbrev cX12_mostOf : ByteArray := prog_14_method_126_code
def yX12_mostOf : MethodName := ⟨RX12, "mostOf", "(I)I"⟩
abbrev cX12_sure : ByteArray := prog_14_method_127_code
def yX12_sure : MethodName := ⟨RX12, "sure", "(II)I"⟩
abbrev cX12_ask : ByteArray := prog_14_method_128_code
def yX12_ask : MethodName := ⟨RX12, "ask", "(II)I"⟩
abbrev cX12_isBox : ByteArray := prog_14_method_129_code
def yX12_isBox : MethodName := ⟨RX12, "isBox", "(I)Z"⟩
abbrev cX12_image : ByteArray := prog_14_method_130_code
def yX12_image : MethodName := ⟨RX12, "image", "(I)I"⟩
abbrev cX12_back : ByteArray := prog_14_method_131_code
def yX12_back : MethodName := ⟨RX12, "back", "(I)I"⟩
abbrev cX12_allLife : ByteArray := prog_14_method_132_code
def yX12_allLife : MethodName := ⟨RX12, "allLife", "()I"⟩
abbrev cX12_about : ByteArray := prog_14_method_133_code
def yX12_about : MethodName := ⟨RX12, "about", "(I)I"⟩
def RJ11 : String := "java/lang/Character"
def TJ11 : u_T := fun k => match k with
  | _ => ("", "", "", false)
def tyJ11 : Nat → FieldType := fun k => match k with
  | _ => .int
abbrev wsJ110 : List Cond := u_ws RJ11 TJ11 0
theorem nmJ11 : ∀ a, a < 0 → ∀ b, b < 0 → a ≠ b → (TJ11 a).2.1 ≠ (TJ11 b).2.1 := by decide +kernel
theorem tyJ11_ok : ∀ k, k < 0 → parseFieldDescriptor (TJ11 k).2.2.1 = some (tyJ11 k) := by decide +kernel
abbrev cJ11_isValidCodePoint_9a6ad : ByteArray := prog_15_method_11_code
def yJ11_isValidCodePoint_9a6ad : MethodName := ⟨RJ11, "isValidCodePoint", "(I)Z"⟩
abbrev cJ11_highSurrogate_5068e : ByteArray := prog_15_method_28_code
def yJ11_highSurrogate_5068e : MethodName := ⟨RJ11, "highSurrogate", "(I)C"⟩
abbrev cJ11_lowSurrogate_5068e : ByteArray := prog_15_method_29_code
def yJ11_lowSurrogate_5068e : MethodName := ⟨RJ11, "lowSurrogate", "(I)C"⟩
def RJ6 : String := "java/lang/Integer"
def TJ6 : u_T := fun k => match k with
  | _ => ("", "", "", false)
def tyJ6 : Nat → FieldType := fun k => match k with
  | _ => .int
abbrev wsJ60 : List Cond := u_ws RJ6 TJ6 0
theorem nmJ6 : ∀ a, a < 0 → ∀ b, b < 0 → a ≠ b → (TJ6 a).2.1 ≠ (TJ6 b).2.1 := by decide +kernel
theorem tyJ6_ok : ∀ k, k < 0 → parseFieldDescriptor (TJ6 k).2.2.1 = some (tyJ6 k) := by decide +kernel
abbrev cJ6_bitCount_0f7a4 : ByteArray := prog_16_method_49_code
def yJ6_bitCount_0f7a4 : MethodName := ⟨RJ6, "bitCount", "(I)I"⟩
def RJ9 : String := "java/lang/Math"
def TJ9 : u_T := fun k => match k with
  | _ => ("", "", "", false)
def tyJ9 : Nat → FieldType := fun k => match k with
  | _ => .int
abbrev wsJ90 : List Cond := u_ws RJ9 TJ9 0
theorem nmJ9 : ∀ a, a < 0 → ∀ b, b < 0 → a ≠ b → (TJ9 a).2.1 ≠ (TJ9 b).2.1 := by decide +kernel
theorem tyJ9_ok : ∀ k, k < 0 → parseFieldDescriptor (TJ9 k).2.2.1 = some (tyJ9 k) := by decide +kernel
abbrev cJ9_abs_0f7a4 : ByteArray := prog_17_method_59_code
def yJ9_abs_0f7a4 : MethodName := ⟨RJ9, "abs", "(I)I"⟩
abbrev cJ9_max_7cf53 : ByteArray := prog_17_method_65_code
def yJ9_max_7cf53 : MethodName := ⟨RJ9, "max", "(II)I"⟩
abbrev cJ9_min_7cf53 : ByteArray := prog_17_method_69_code
def yJ9_min_7cf53 : MethodName := ⟨RJ9, "min", "(II)I"⟩
def RJ0 : String := "java/lang/String"
def TJ0 : u_T := fun k => match k with
  | _ => ("", "", "", false)
def tyJ0 : Nat → FieldType := fun k => match k with
  | _ => .int
abbrev wsJ00 : List Cond := u_ws RJ0 TJ0 0
theorem nmJ0 : ∀ a, a < 0 → ∀ b, b < 0 → a ≠ b → (TJ0 a).2.1 ≠ (TJ0 b).2.1 := by decide +kernel
theorem tyJ0_ok : ∀ k, k < 0 → parseFieldDescriptor (TJ0 k).2.2.1 = some (tyJ0 k) := by decide +kernel
abbrev cJ0_length_8abf5 : ByteArray := prog_18_method_54_code
def yJ0_length_8abf5 : MethodName := ⟨RJ0, "length", "()I"⟩
abbrev cJ0_charAt_5068e : ByteArray := prog_18_method_56_code
def yJ0_charAt_5068e : MethodName := ⟨RJ0, "charAt", "(I)C"⟩
abbrev cJ0_indexOf_0f7a4 : ByteArray := prog_18_method_79_code
def yJ0_indexOf_0f7a4 : MethodName := ⟨RJ0, "indexOf", "(I)I"⟩
abbrev cJ0_indexOf_7cf53 : ByteArray := prog_18_method_80_code
def yJ0_indexOf_7cf53 : MethodName := ⟨RJ0, "indexOf", "(II)I"⟩
abbrev cJ0_coder_7d493 : ByteArray := prog_18_method_152_code
def yJ0_coder_7d493 : MethodName := ⟨RJ0, "coder", "()B"⟩
abbrev cJ0_isLatin1_aae02 : ByteArray := prog_18_method_154_code
def yJ0_isLatin1_aae02 : MethodName := ⟨RJ0, "isLatin1", "()Z"⟩
abbrev cJ0_checkIndex_df160 : ByteArray := prog_18_method_155_code
def yJ0_checkIndex_df160 : MethodName := ⟨RJ0, "checkIndex", "(II)V"⟩
abbrev cJ0_checkBoundsBeginEnd_23922 : ByteArray := prog_18_method_158_code
def yJ0_checkBoundsBeginEnd_23922 : MethodName := ⟨RJ0, "checkBoundsBeginEnd", "(III)V"⟩
def RJ1 : String := "java/lang/StringLatin1"
def TJ1 : u_T := fun k => match k with
  | _ => ("", "", "", false)
def tyJ1 : Nat → FieldType := fun k => match k with
  | _ => .int
abbrev wsJ10 : List Cond := u_ws RJ1 TJ1 0
theorem nmJ1 : ∀ a, a < 0 → ∀ b, b < 0 → a ≠ b → (TJ1 a).2.1 ≠ (TJ1 b).2.1 := by decide +kernel
theorem tyJ1_ok : ∀ k, k < 0 → parseFieldDescriptor (TJ1 k).2.2.1 = some (tyJ1 k) := by decide +kernel
abbrev cJ1_charAt_3b067 : ByteArray := prog_19_method_2_code
def yJ1_charAt_3b067 : MethodName := ⟨RJ1, "charAt", "([BI)C"⟩
abbrev cJ1_canEncode_9a6ad : ByteArray := prog_19_method_4_code
def yJ1_canEncode_9a6ad : MethodName := ⟨RJ1, "canEncode", "(I)Z"⟩
abbrev cJ1_indexOf_4cfef : ByteArray := prog_19_method_22_code
def yJ1_indexOf_4cfef : MethodName := ⟨RJ1, "indexOf", "([BIII)I"⟩
abbrev cJ1_indexOfChar_4cfef : ByteArray := prog_19_method_23_code
def yJ1_indexOfChar_4cfef : MethodName := ⟨RJ1, "indexOfChar", "([BIII)I"⟩
def RJ2 : String := "java/lang/StringUTF16"
def TJ2 : u_T := fun k => match k with
  | _ => ("", "", "", false)
def tyJ2 : Nat → FieldType := fun k => match k with
  | _ => .int
abbrev wsJ20 : List Cond := u_ws RJ2 TJ2 0
theorem nmJ2 : ∀ a, a < 0 → ∀ b, b < 0 → a ≠ b → (TJ2 a).2.1 ≠ (TJ2 b).2.1 := by decide +kernel
theorem tyJ2_ok : ∀ k, k < 0 → parseFieldDescriptor (TJ2 k).2.2.1 = some (tyJ2 k) := by decide +kernel
abbrev cJ2_getChar_3b067 : ByteArray := prog_20_method_5_code
def yJ2_getChar_3b067 : MethodName := ⟨RJ2, "getChar", "([BI)C"⟩
abbrev cJ2_length_9d52b : ByteArray := prog_20_method_6_code
def yJ2_length_9d52b : MethodName := ⟨RJ2, "length", "([B)I"⟩
abbrev cJ2_indexOf_4cfef : ByteArray := prog_20_method_40_code
def yJ2_indexOf_4cfef : MethodName := ⟨RJ2, "indexOf", "([BIII)I"⟩
abbrev cJ2_indexOfChar_4cfef : ByteArray := prog_20_method_47_code
def yJ2_indexOfChar_4cfef : MethodName := ⟨RJ2, "indexOfChar", "([BIII)I"⟩
abbrev cJ2_indexOfCharUnsafe_4cfef : ByteArray := prog_20_method_48_code
def yJ2_indexOfCharUnsafe_4cfef : MethodName := ⟨RJ2, "indexOfCharUnsafe", "([BIII)I"⟩
abbrev cJ2_indexOfSupplementary_4cfef : ByteArray := prog_20_method_49_code
def yJ2_indexOfSupplementary_4cfef : MethodName := ⟨RJ2, "indexOfSupplementary", "([BIII)I"⟩
abbrev cJ2_charAt_3b067 : ByteArray := prog_20_method_83_code
def yJ2_charAt_3b067 : MethodName := ⟨RJ2, "charAt", "([BI)C"⟩
abbrev cJ2_checkIndex_2214a : ByteArray := prog_20_method_91_code
def yJ2_checkIndex_2214a : MethodName := ⟨RJ2, "checkIndex", "(I[B)V"⟩
abbrev cJ2_checkBoundsBeginEnd_d044e : ByteArray := prog_20_method_93_code
def yJ2_checkBoundsBeginEnd_d044e : MethodName := ⟨RJ2, "checkBoundsBeginEnd", "(II[B)V"⟩
def RJ10 : String := "java/lang/System"
def TJ10 : u_T := fun k => match k with
  | _ => ("", "", "", false)
def tyJ10 : Nat → FieldType := fun k => match k with
  | _ => .int
abbrev wsJ100 : List Cond := u_ws RJ10 TJ10 0
theorem nmJ10 : ∀ a, a < 0 → ∀ b, b < 0 → a ≠ b → (TJ10 a).2.1 ≠ (TJ10 b).2.1 := by decide +kernel
theorem tyJ10_ok : ∀ k, k < 0 → parseFieldDescriptor (TJ10 k).2.2.1 = some (tyJ10 k) := by decide +kernel
def RJ3 : String := "jdk/internal/util/Preconditions"
def TJ3 : u_T := fun k => match k with
  | _ => ("", "", "", false)
def tyJ3 : Nat → FieldType := fun k => match k with
  | _ => .int
abbrev wsJ30 : List Cond := u_ws RJ3 TJ3 0
theorem nmJ3 : ∀ a, a < 0 → ∀ b, b < 0 → a ≠ b → (TJ3 a).2.1 ≠ (TJ3 b).2.1 := by decide +kernel
theorem tyJ3_ok : ∀ k, k < 0 → parseFieldDescriptor (TJ3 k).2.2.1 = some (tyJ3 k) := by decide +kernel
abbrev cJ3_checkIndex_8e157 : ByteArray := prog_22_method_11_code
def yJ3_checkIndex_8e157 : MethodName := ⟨RJ3, "checkIndex", "(IILjava/util/function/BiFunction;)I"⟩
abbrev cJ3_checkFromToIndex_8c36e : ByteArray := prog_22_method_12_code
def yJ3_checkFromToIndex_8c36e : MethodName := ⟨RJ3, "checkFromToIndex", "(IIILjava/util/function/BiFunction;)I"⟩
def RL : String := "HedgeRecordLaw"
abbrev cL_law : ByteArray := code
def yL_law : MethodName := ⟨RL, "law", "([I)Z"⟩
abbrev vwCl : List vw_C := [(RX0, TX0, 4), (RX1, TX1, 7), (RX2, TX2, 5), (RX3, TX3, 5), (RX4, TX4, 14), (RX5, TX5, 2), (RX6, TX6, 5), (RX7, TX7, 14), (RX8, TX8, 6), (RX9, TX9, 8), (RX10, TX10, 1), (RX11, TX11, 16), (RX12, TX12, 79)]
